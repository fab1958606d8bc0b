def f_X11_init (σ : Sto) (sz : Nat) (a0 : Nat) : Option (Unit × Sto × Nat) :=
 lt_ (nA σ sz 4 12 z3) fun τ1 =>
 (pF τ1 a0 10 0 (.ref sz)).bind fun τ2 =>
 lt_ (nO τ2 (sz + 1) 8 dvX9) fun τ3 =>
 b3 (f_X9_init τ3 (sz + 2) (sz + 1)) fun x4 τ5 y6 =>
 (pF τ5 a0 10 1 (.ref (sz + 1))).bind fun τ7 =>
 lt_ (nA τ7 y6 5 4 z3) fun τ8 =>
 (pF τ8 a0 10 2 (.ref y6)).bind fun τ9 =>
 lt_ (nA τ9 (y6 + 1) 4 16 z3) fun τ10 =>
 (pF τ10 a0 10 3 (.ref (y6 + 1))).bind fun τ11 =>
 lt_ (nA τ11 (y6 + 2) 6 6 z3) fun τ12 =>
 (pF τ12 a0 10 4 (.ref (y6 + 2))).bind fun τ13 =>
 lt_ (nA τ13 (y6 + 3) 6 6 z3) fun τ14 =>
 (pF τ14 a0 10 5 (.ref (y6 + 3))).bind fun τ15 =>
 lt_ (nA τ15 (y6 + 4) 7 20 z3) fun τ16 =>
 (pF τ16 a0 10 6 (.ref (y6 + 4))).bind fun τ17 =>
 (pF τ17 a0 10 7 (.int 0)).bind fun τ18 =>
 lt_ (nO τ18 (y6 + 5) 6 dvX7) fun τ19 =>
 b3 (f_X7_init τ19 (y6 + 6) (y6 + 5)) fun x20 τ21 y22 =>
 (pF τ21 a0 10 8 (.ref (y6 + 5))).bind fun τ23 =>
 lt_ (nO τ23 y22 4 dvX4) fun τ24 =>
 b3 (f_X4_init τ24 (y22 + 1) y22) fun x25 τ26 y27 =>
 (pF τ26 a0 10 9 (.ref y22)).bind fun τ28 =>
 lt_ (nO τ28 y27 3 dvX3) fun τ29 =>
 b3 (f_X3_init τ29 (y27 + 1) y27) fun x30 τ31 y32 =>
 (pF τ31 a0 10 10 (.ref y27)).bind fun τ33 =>
 (gR τ33 a0 10 2).bind fun p35 =>
 lt_ (nO τ33 y32 0 dvX0) fun τ36 =>
 b2 (f_X0_init τ36 y32) fun x37 τ38 =>
 (sQ τ38 p35 5 0 y32).bind fun τ39 =>
 (gR τ39 a0 10 2).bind fun p41 =>
 lt_ (nO τ39 (y32 + 1) 0 dvX0) fun τ42 =>
 b2 (f_X0_init τ42 (y32 + 1)) fun x43 τ44 =>
 (sQ τ44 p41 5 1 (y32 + 1)).bind fun τ45 =>
 (gR τ45 a0 10 2).bind fun p47 =>
 lt_ (nO τ45 (y32 + 2) 0 dvX0) fun τ48 =>
 b2 (f_X0_init τ48 (y32 + 2)) fun x49 τ50 =>
 (sQ τ50 p47 5 2 (y32 + 2)).bind fun τ51 =>
 (gR τ51 a0 10 2).bind fun p53 =>
 lt_ (nO τ51 (y32 + 3) 0 dvX0) fun τ54 =>
 b2 (f_X0_init τ54 (y32 + 3)) fun x55 τ56 =>
 (sQ τ56 p53 5 3 (y32 + 3)).bind fun τ57 =>
 (gR τ57 a0 10 4).bind fun p60 =>
 lt_ (nO τ57 (y32 + 4) 7 dvX8) fun τ61 =>
 b3 (f_X8_init τ61 (y32 + 5) (y32 + 4)) fun x62 τ63 y64 =>
 (sQ τ63 p60 6 0 (y32 + 4)).bind fun τ65 =>
 (gR τ65 a0 10 5).bind fun p66 =>
 lt_ (nO τ65 y64 7 dvX8) fun τ67 =>
 b3 (f_X8_init τ67 (y64 + 1) y64) fun x68 τ69 y70 =>
 (sQ τ69 p66 6 0 y64).bind fun τ71 =>
 (gR τ71 a0 10 4).bind fun p73 =>
 lt_ (nO τ71 y70 7 dvX8) fun τ74 =>
 b3 (f_X8_init τ74 (y70 + 1) y70) fun x75 τ76 y77 =>
 (sQ τ76 p73 6 1 y70).bind fun τ78 =>
 (gR τ78 a0 10 5).bind fun p79 =>
 lt_ (nO τ78 y77 7 dvX8) fun τ80 =>
 b3 (f_X8_init τ80 (y77 + 1) y77) fun x81 τ82 y83 =>
 (sQ τ82 p79 6 1 y77).bind fun τ84 =>
 (gR τ84 a0 10 4).bind fun p86 =>
 lt_ (nO τ84 y83 7 dvX8) fun τ87 =>
 b3 (f_X8_init τ87 (y83 + 1) y83) fun x88 τ89 y90 =>
 (sQ τ89 p86 6 2 y83).bind fun τ91 =>
 (gR τ91 a0 10 5).bind fun p92 =>
 lt_ (nO τ91 y90 7 dvX8) fun τ93 =>
 b3 (f_X8_init τ93 (y90 + 1) y90) fun x94 τ95 y96 =>
 (sQ τ95 p92 6 2 y90).bind fun τ97 =>
 (gR τ97 a0 10 4).bind fun p99 =>
 lt_ (nO τ97 y96 7 dvX8) fun τ100 =>
 b3 (f_X8_init τ100 (y96 + 1) y96) fun x101 τ102 y103 =>
 (sQ τ102 p99 6 3 y96).bind fun τ104 =>
 (gR τ104 a0 10 5).bind fun p105 =>
 lt_ (nO τ104 y103 7 dvX8) fun τ106 =>
 b3 (f_X8_init τ106 (y103 + 1) y103) fun x107 τ108 y109 =>
 (sQ τ108 p105 6 3 y103).bind fun τ110 =>
 (gR τ110 a0 10 4).bind fun p112 =>
 lt_ (nO τ110 y109 7 dvX8) fun τ113 =>
 b3 (f_X8_init τ113 (y109 + 1) y109) fun x114 τ115 y116 =>
 (sQ τ115 p112 6 4 y109).bind fun τ117 =>
 (gR τ117 a0 10 5).bind fun p118 =>
 lt_ (nO τ117 y116 7 dvX8) fun τ119 =>
 b3 (f_X8_init τ119 (y116 + 1) y116) fun x120 τ121 y122 =>
 (sQ τ121 p118 6 4 y116).bind fun τ123 =>
 (gR τ123 a0 10 4).bind fun p125 =>
 lt_ (nO τ123 y122 7 dvX8) fun τ126 =>
 b3 (f_X8_init τ126 (y122 + 1) y122) fun x127 τ128 y129 =>
 (sQ τ128 p125 6 5 y122).bind fun τ130 =>
 (gR τ130 a0 10 5).bind fun p131 =>
 lt_ (nO τ130 y129 7 dvX8) fun τ132 =>
 b3 (f_X8_init τ132 (y129 + 1) y129) fun x133 τ134 y135 =>
 (sQ τ134 p131 6 5 y129).bind fun τ136 =>
 some ((), τ136, y135)
set_option maxHeartbeats 4000000 in
set_option maxRecDepth 100000 in
theorem c_X11_init {l : Launch} {g : PP} {σ : Sto} {sz : Nat} {a0 : Nat} {r9 : Unit} {σ9 : Sto} {sz9 : Nat} (h : f_X11_init σ sz a0 = some (r9, σ9, sz9)) : Met l yX11_init [Cond.code yX11_init cX11_init 2 none] (rmk 2 64 2111 40) (Pre g σ sz [.ref a0]) (Pst g (vV r9) σ9 sz9) 64 2111 (Aw g) := by
  refine Met.ofW (cc := cX11_init) (maxL := 2) (ret := none) (by decide) rfl ?_
  intro p e s m args below meth c s₁ B hml hv
  obtain ⟨rfl, C, hs⟩ := ctx_of B hml hv
  have C : Cx g p s m meth c cX11_init 2 "Tillhouse" := C
  have hr := B.returns
  have hin : meth.name = "<init>" := (name_of_methodNamed B.named B.method).1
  have hl := lv_entry ([.ref a0]) (n := 2) (Nat.le_of_ble_eq_true rfl)
  rw [lg_entry_eq]
  generalize (lg_sl ([.ref a0]) ++ List.replicate (2 - (lg_sl ([.ref a0])).length) Slot.unset).toArray = ls at hl ⊢
  have hl : lv_has ls 2 [(0, .ref a0)] := hl
  unfold f_X11_init at h
  refine lv_aload_n C.1 C.2.1 dX11_init_0 rfl (lv_at hl 0 rfl) ?_
  refine sx_objInit C hl q93 qobj1 qobj2 dX11_init_1 (Nat.le_of_ble_eq_true rfl) (Nat.le_of_ble_eq_true rfl) ?_
  refine lv_aload_n C.1 C.2.1 dX11_init_4 rfl (lv_at hl 0 rfl) ?_
  refine lv_bipush (v := 12) C.1 C.2.1 dX11_init_5 (by decide) ?_
  replace h := ol h; obtain ⟨τ1, eτ1, h⟩ := h
  refine sx_newq (k := 4) (N := 12) C hs (by decide) rfl q96 q97 (by decide) (by decide +kernel) (Nat.le_of_ble_eq_true rfl) (Nat.le_of_ble_eq_true rfl) (Nat.le_of_ble_eq_true rfl) dX11_init_7 (fun H hs => ?_)
  replace hs := HS.nm eτ1 hs
  replace h := ob h; obtain ⟨τ2, eτ2, h⟩ := h
  refine sx_putF C hs fi_X11_11 hin rfl rfl eτ2 dX11_init_10 (fun H locs hs => ?_)
  refine lv_aload_n C.1 C.2.1 dX11_init_13 rfl (lv_at hl 0 rfl) ?_
  replace h := ol h; obtain ⟨τ3, eτ3, h⟩ := h
  refine sx_new C hs no_X11_15 (Nat.le_of_ble_eq_true rfl) (Nat.le_of_ble_eq_true rfl) dX11_init_14 (fun H hs => ?_)
  replace hs := HS.nm eτ3 hs
  refine lv_dup C.1 C.2.1 dX11_init_17 rfl ?_
  replace h := ob3 h; obtain ⟨x4, τ5, y6, ex4, h⟩ := h
  refine sx_callN (As := []) (rest := [.ref (sz + 1), .ref a0]) C hs (c_X9_init ex4) mo_X9_init q100 rfl hl.1 ⟨⟨(Nat.le_of_ble_eq_true rfl), (Nat.le_of_ble_eq_true rfl)⟩, (Nat.le_of_ble_eq_true rfl), (Nat.le_of_ble_eq_true rfl)⟩ rfl (Nat.le_of_ble_eq_true rfl) dX11_init_18 (fun H locs hs => ?_)
  replace h := ob h; obtain ⟨τ7, eτ7, h⟩ := h
  refine sx_putF C hs fi_X11_18 hin rfl rfl eτ7 dX11_init_21 (fun H locs hs => ?_)
  refine lv_aload_n C.1 C.2.1 dX11_init_24 rfl (lv_at hl 0 rfl) ?_
  refine lv_iconst (v := 4) C.1 C.2.1 dX11_init_25 (by decide) ?_
  replace h := ol h; obtain ⟨τ8, eτ8, h⟩ := h
  refine sx_newq (k := 5) (N := 4) C hs (by decide) rfl q112 q113 (by decide) (by decide +kernel) (Nat.le_of_ble_eq_true rfl) (Nat.le_of_ble_eq_true rfl) (Nat.le_of_ble_eq_true rfl) dX11_init_26 (fun H hs => ?_)
  replace hs := HS.nm eτ8 hs
  replace h := ob h; obtain ⟨τ9, eτ9, h⟩ := h
  refine sx_putF C hs fi_X11_24 hin rfl rfl eτ9 dX11_init_29 (fun H locs hs => ?_)
  refine lv_aload_n C.1 C.2.1 dX11_init_32 rfl (lv_at hl 0 rfl) ?_
  refine lv_bipush (v := 16) C.1 C.2.1 dX11_init_33 (by decide) ?_
  replace h := ol h; obtain ⟨τ10, eτ10, h⟩ := h
  refine sx_newq (k := 4) (N := 16) C hs (by decide) rfl q96 q97 (by decide) (by decide +kernel) (Nat.le_of_ble_eq_true rfl) (Nat.le_of_ble_eq_true rfl) (Nat.le_of_ble_eq_true rfl) dX11_init_35 (fun H hs => ?_)
  replace hs := HS.nm eτ10 hs
  replace h := ob h; obtain ⟨τ11, eτ11, h⟩ := h
  refine sx_putF C hs fi_X11_28 hin rfl rfl eτ11 dX11_init_38 (fun H locs hs => ?_)
  refine lv_aload_n C.1 C.2.1 dX11_init_41 rfl (lv_at hl 0 rfl) ?_
  refine lv_bipush (v := 6) C.1 C.2.1 dX11_init_42 (by decide) ?_
  replace h := ol h; obtain ⟨τ12, eτ12, h⟩ := h
  refine sx_newq (k := 6) (N := 6) C hs (by decide) rfl q114 q115 (by decide) (by decide +kernel) (Nat.le_of_ble_eq_true rfl) (Nat.le_of_ble_eq_true rfl) (Nat.le_of_ble_eq_true rfl) dX11_init_44 (fun H hs => ?_)
  replace hs := HS.nm eτ12 hs
  replace h := ob h; obtain ⟨τ13, eτ13, h⟩ := h
  refine sx_putF C hs fi_X11_33 hin rfl rfl eτ13 dX11_init_47 (fun H locs hs => ?_)
  refine lv_aload_n C.1 C.2.1 dX11_init_50 rfl (lv_at hl 0 rfl) ?_
  refine lv_bipush (v := 6) C.1 C.2.1 dX11_init_51 (by decide) ?_
  replace h := ol h; obtain ⟨τ14, eτ14, h⟩ := h
  refine sx_newq (k := 6) (N := 6) C hs (by decide) rfl q114 q115 (by decide) (by decide +kernel) (Nat.le_of_ble_eq_true rfl) (Nat.le_of_ble_eq_true rfl) (Nat.le_of_ble_eq_true rfl) dX11_init_53 (fun H hs => ?_)
  replace hs := HS.nm eτ14 hs
  replace h := ob h; obtain ⟨τ15, eτ15, h⟩ := h
  refine sx_putF C hs fi_X11_37 hin rfl rfl eτ15 dX11_init_56 (fun H locs hs => ?_)
  refine lv_aload_n C.1 C.2.1 dX11_init_59 rfl (lv_at hl 0 rfl) ?_
  refine lv_bipush (v := 20) C.1 C.2.1 dX11_init_60 (by decide) ?_
  replace h := ol h; obtain ⟨τ16, eτ16, h⟩ := h
  refine sx_newq (k := 7) (N := 20) C hs (by decide) rfl q116 q117 (by decide) (by decide +kernel) (Nat.le_of_ble_eq_true rfl) (Nat.le_of_ble_eq_true rfl) (Nat.le_of_ble_eq_true rfl) dX11_init_62 (fun H hs => ?_)
  replace hs := HS.nm eτ16 hs
  replace h := ob h; obtain ⟨τ17, eτ17, h⟩ := h
  refine sx_putF C hs fi_X11_42 hin rfl rfl eτ17 dX11_init_65 (fun H locs hs => ?_)
  refine lv_aload_n C.1 C.2.1 dX11_init_68 rfl (lv_at hl 0 rfl) ?_
  refine lv_iconst (v := 0) C.1 C.2.1 dX11_init_69 (by decide) ?_
  replace h := ob h; obtain ⟨τ18, eτ18, h⟩ := h
  refine sx_put C hs fp_X11_46 rfl rfl eτ18 dX11_init_70 (fun H locs hs => ?_)
  refine lv_aload_n C.1 C.2.1 dX11_init_73 rfl (lv_at hl 0 rfl) ?_
  replace h := ol h; obtain ⟨τ19, eτ19, h⟩ := h
  refine sx_new C hs no_X11_50 (Nat.le_of_ble_eq_true rfl) (Nat.le_of_ble_eq_true rfl) dX11_init_74 (fun H hs => ?_)
  replace hs := HS.nm eτ19 hs
  refine lv_dup C.1 C.2.1 dX11_init_77 rfl ?_
  replace h := ob3 h; obtain ⟨x20, τ21, y22, ex20, h⟩ := h
  refine sx_callN (As := []) (rest := [.ref (y6 + 5), .ref a0]) C hs (c_X7_init ex20) mo_X7_init q120 rfl hl.1 ⟨⟨(Nat.le_of_ble_eq_true rfl), (Nat.le_of_ble_eq_true rfl)⟩, (Nat.le_of_ble_eq_true rfl), (Nat.le_of_ble_eq_true rfl)⟩ rfl (Nat.le_of_ble_eq_true rfl) dX11_init_78 (fun H locs hs => ?_)
  replace h := ob h; obtain ⟨τ23, eτ23, h⟩ := h
  refine sx_putF C hs fi_X11_53 hin rfl rfl eτ23 dX11_init_81 (fun H locs hs => ?_)
  refine lv_aload_n C.1 C.2.1 dX11_init_84 rfl (lv_at hl 0 rfl) ?_
  replace h := ol h; obtain ⟨τ24, eτ24, h⟩ := h
  refine sx_new C hs no_X11_57 (Nat.le_of_ble_eq_true rfl) (Nat.le_of_ble_eq_true rfl) dX11_init_85 (fun H hs => ?_)
  replace hs := HS.nm eτ24 hs
  refine lv_dup C.1 C.2.1 dX11_init_88 rfl ?_
  replace h := ob3 h; obtain ⟨x25, τ26, y27, ex25, h⟩ := h
  refine sx_callN (As := []) (rest := [.ref y22, .ref a0]) C hs (c_X4_init ex25) mo_X4_init q149 rfl hl.1 ⟨⟨(Nat.le_of_ble_eq_true rfl), (Nat.le_of_ble_eq_true rfl)⟩, (Nat.le_of_ble_eq_true rfl), (Nat.le_of_ble_eq_true rfl)⟩ rfl (Nat.le_of_ble_eq_true rfl) dX11_init_89 (fun H locs hs => ?_)
  replace h := ob h; obtain ⟨τ28, eτ28, h⟩ := h
  refine sx_putF C hs fi_X11_60 hin rfl rfl eτ28 dX11_init_92 (fun H locs hs => ?_)
  refine lv_aload_n C.1 C.2.1 dX11_init_95 rfl (lv_at hl 0 rfl) ?_
  replace h := ol h; obtain ⟨τ29, eτ29, h⟩ := h
  refine sx_new C hs no_X11_64 (Nat.le_of_ble_eq_true rfl) (Nat.le_of_ble_eq_true rfl) dX11_init_96 (fun H hs => ?_)
  replace hs := HS.nm eτ29 hs
  refine lv_dup C.1 C.2.1 dX11_init_99 rfl ?_
  replace h := ob3 h; obtain ⟨x30, τ31, y32, ex30, h⟩ := h
  refine sx_callN (As := []) (rest := [.ref y27, .ref a0]) C hs (c_X3_init ex30) mo_X3_init q175 rfl hl.1 ⟨⟨(Nat.le_of_ble_eq_true rfl), (Nat.le_of_ble_eq_true rfl)⟩, (Nat.le_of_ble_eq_true rfl), (Nat.le_of_ble_eq_true rfl)⟩ rfl (Nat.le_of_ble_eq_true rfl) dX11_init_100 (fun H locs hs => ?_)
  replace h := ob h; obtain ⟨τ33, eτ33, h⟩ := h
  refine sx_putF C hs fi_X11_67 hin rfl rfl eτ33 dX11_init_103 (fun H locs hs => ?_)
  refine lv_iconst (v := 0) C.1 C.2.1 dX11_init_106 (by decide) ?_
  refine lv_istore_n (lv' := [(1, .int 0), (0, .ref a0)]) C.1 C.2.1 dX11_init_107 rfl hl (by decide) rfl (fun ls hl => ?_)
  refine lv_iload_n C.1 C.2.1 dX11_init_108 rfl (lv_at hl 0 rfl) ?_
  refine lv_iconst (v := 4) C.1 C.2.1 dX11_init_109 (by decide) ?_
  refine lv_icmp_ge (tgt := 132) C.1 C.2.1 dX11_init_110 (by decide) (fun c34 => ?_) (fun c34 => ?_)
  · exact absurd c34 (by decide)
  refine lv_aload_n C.1 C.2.1 dX11_init_113 rfl (lv_at hl 1 rfl) ?_
  replace h := ob h; obtain ⟨p35, ep35, h⟩ := h
  refine sx_getV C hs fo_X11_24 (gR_v ep35) dX11_init_114 ?_
  refine lv_iload_n C.1 C.2.1 dX11_init_117 rfl (lv_at hl 0 rfl) ?_
  replace h := ol h; obtain ⟨τ36, eτ36, h⟩ := h
  refine sx_new C hs no_X11_22 (Nat.le_of_ble_eq_true rfl) (Nat.le_of_ble_eq_true rfl) dX11_init_118 (fun H hs => ?_)
  replace hs := HS.nm eτ36 hs
  refine lv_dup C.1 C.2.1 dX11_init_121 rfl ?_
  replace h := ob2 h; obtain ⟨x37, τ38, ex37, h⟩ := h
  refine sx_callN (As := []) (rest := [.ref y32, .int 0, .ref p35]) C hs (c_X0_init ex37) mo_X0_init q213 rfl hl.1 ⟨⟨(Nat.le_of_ble_eq_true rfl), (Nat.le_of_ble_eq_true rfl)⟩, (Nat.le_of_ble_eq_true rfl), (Nat.le_of_ble_eq_true rfl)⟩ rfl (Nat.le_of_ble_eq_true rfl) dX11_init_122 (fun H locs hs => ?_)
  replace h := ob h; obtain ⟨τ39, eτ39, h⟩ := h
  refine sx_aast (r := (RX0, TX0, 3)) C hs (by decide) rfl rfl eτ39 dX11_init_125 (fun H locs hs => ?_)
  refine lv_iinc (v := 1) (lv' := [(1, .int 1), (0, .ref a0)]) C.1 C.2.1 dX11_init_126 hl (k := 0) rfl (by decide) (by decide) rfl (fun ls hl => ?_)
  refine lv_goto (tgt := 108) C.1 C.2.1 dX11_init_129 (by decide) ?_
  refine lv_iload_n C.1 C.2.1 dX11_init_108 rfl (lv_at hl 0 rfl) ?_
  refine lv_iconst (v := 4) C.1 C.2.1 dX11_init_109 (by decide) ?_
  refine lv_icmp_ge (tgt := 132) C.1 C.2.1 dX11_init_110 (by decide) (fun c40 => ?_) (fun c40 => ?_)
  · exact absurd c40 (by decide)
  refine lv_aload_n C.1 C.2.1 dX11_init_113 rfl (lv_at hl 1 rfl) ?_
  replace h := ob h; obtain ⟨p41, ep41, h⟩ := h
  refine sx_getV C hs fo_X11_24 (gR_v ep41) dX11_init_114 ?_
  refine lv_iload_n C.1 C.2.1 dX11_init_117 rfl (lv_at hl 0 rfl) ?_
  replace h := ol h; obtain ⟨τ42, eτ42, h⟩ := h
  refine sx_new C hs no_X11_22 (Nat.le_of_ble_eq_true rfl) (Nat.le_of_ble_eq_true rfl) dX11_init_118 (fun H hs => ?_)
  replace hs := HS.nm eτ42 hs
  refine lv_dup C.1 C.2.1 dX11_init_121 rfl ?_
  replace h := ob2 h; obtain ⟨x43, τ44, ex43, h⟩ := h
  refine sx_callN (As := []) (rest := [.ref (y32 + 1), .int 1, .ref p41]) C hs (c_X0_init ex43) mo_X0_init q213 rfl hl.1 ⟨⟨(Nat.le_of_ble_eq_true rfl), (Nat.le_of_ble_eq_true rfl)⟩, (Nat.le_of_ble_eq_true rfl), (Nat.le_of_ble_eq_true rfl)⟩ rfl (Nat.le_of_ble_eq_true rfl) dX11_init_122 (fun H locs hs => ?_)
  replace h := ob h; obtain ⟨τ45, eτ45, h⟩ := h
  refine sx_aast (r := (RX0, TX0, 3)) C hs (by decide) rfl rfl eτ45 dX11_init_125 (fun H locs hs => ?_)
  refine lv_iinc (v := 2) (lv' := [(1, .int 2), (0, .ref a0)]) C.1 C.2.1 dX11_init_126 hl (k := 0) rfl (by decide) (by decide) rfl (fun ls hl => ?_)
  refine lv_goto (tgt := 108) C.1 C.2.1 dX11_init_129 (by decide) ?_
  refine lv_iload_n C.1 C.2.1 dX11_init_108 rfl (lv_at hl 0 rfl) ?_
  refine lv_iconst (v := 4) C.1 C.2.1 dX11_init_109 (by decide) ?_
  refine lv_icmp_ge (tgt := 132) C.1 C.2.1 dX11_init_110 (by decide) (fun c46 => ?_) (fun c46 => ?_)
  · exact absurd c46 (by decide)
  refine lv_aload_n C.1 C.2.1 dX11_init_113 rfl (lv_at hl 1 rfl) ?_
  replace h := ob h; obtain ⟨p47, ep47, h⟩ := h
  refine sx_getV C hs fo_X11_24 (gR_v ep47) dX11_init_114 ?_
  refine lv_iload_n C.1 C.2.1 dX11_init_117 rfl (lv_at hl 0 rfl) ?_
  replace h := ol h; obtain ⟨τ48, eτ48, h⟩ := h
  refine sx_new C hs no_X11_22 (Nat.le_of_ble_eq_true rfl) (Nat.le_of_ble_eq_true rfl) dX11_init_118 (fun H hs => ?_)
  replace hs := HS.nm eτ48 hs
  refine lv_dup C.1 C.2.1 dX11_init_121 rfl ?_
  replace h := ob2 h; obtain ⟨x49, τ50, ex49, h⟩ := h
  refine sx_callN (As := []) (rest := [.ref (y32 + 2), .int 2, .ref p47]) C hs (c_X0_init ex49) mo_X0_init q213 rfl hl.1 ⟨⟨(Nat.le_of_ble_eq_true rfl), (Nat.le_of_ble_eq_true rfl)⟩, (Nat.le_of_ble_eq_true rfl), (Nat.le_of_ble_eq_true rfl)⟩ rfl (Nat.le_of_ble_eq_true rfl) dX11_init_122 (fun H locs hs => ?_)
  replace h := ob h; obtain ⟨τ51, eτ51, h⟩ := h
  refine sx_aast (r := (RX0, TX0, 3)) C hs (by decide) rfl rfl eτ51 dX11_init_125 (fun H locs hs => ?_)
  refine lv_iinc (v := 3) (lv' := [(1, .int 3), (0, .ref a0)]) C.1 C.2.1 dX11_init_126 hl (k := 0) rfl (by decide) (by decide) rfl (fun ls hl => ?_)
  refine lv_goto (tgt := 108) C.1 C.2.1 dX11_init_129 (by decide) ?_
  refine lv_iload_n C.1 C.2.1 dX11_init_108 rfl (lv_at hl 0 rfl) ?_
  refine lv_iconst (v := 4) C.1 C.2.1 dX11_init_109 (by decide) ?_
  refine lv_icmp_ge (tgt := 132) C.1 C.2.1 dX11_init_110 (by decide) (fun c52 => ?_) (fun c52 => ?_)
  · exact absurd c52 (by decide)
  refine lv_aload_n C.1 C.2.1 dX11_init_113 rfl (lv_at hl 1 rfl) ?_
  replace h := ob h; obtain ⟨p53, ep53, h⟩ := h
  refine sx_getV C hs fo_X11_24 (gR_v ep53) dX11_init_114 ?_
  refine lv_iload_n C.1 C.2.1 dX11_init_117 rfl (lv_at hl 0 rfl) ?_
  replace h := ol h; obtain ⟨τ54, eτ54, h⟩ := h
  refine sx_new C hs no_X11_22 (Nat.le_of_ble_eq_true rfl) (Nat.le_of_ble_eq_true rfl) dX11_init_118 (fun H hs => ?_)
  replace hs := HS.nm eτ54 hs
  refine lv_dup C.1 C.2.1 dX11_init_121 rfl ?_
  replace h := ob2 h; obtain ⟨x55, τ56, ex55, h⟩ := h
  refine sx_callN (As := []) (rest := [.ref (y32 + 3), .int 3, .ref p53]) C hs (c_X0_init ex55) mo_X0_init q213 rfl hl.1 ⟨⟨(Nat.le_of_ble_eq_true rfl), (Nat.le_of_ble_eq_true rfl)⟩, (Nat.le_of_ble_eq_true rfl), (Nat.le_of_ble_eq_true rfl)⟩ rfl (Nat.le_of_ble_eq_true rfl) dX11_init_122 (fun H locs hs => ?_)
  replace h := ob h; obtain ⟨τ57, eτ57, h⟩ := h
  refine sx_aast (r := (RX0, TX0, 3)) C hs (by decide) rfl rfl eτ57 dX11_init_125 (fun H locs hs => ?_)
  refine lv_iinc (v := 4) (lv' := [(1, .int 4), (0, .ref a0)]) C.1 C.2.1 dX11_init_126 hl (k := 0) rfl (by decide) (by decide) rfl (fun ls hl => ?_)
  refine lv_goto (tgt := 108) C.1 C.2.1 dX11_init_129 (by decide) ?_
  refine lv_iload_n C.1 C.2.1 dX11_init_108 rfl (lv_at hl 0 rfl) ?_
  refine lv_iconst (v := 4) C.1 C.2.1 dX11_init_109 (by decide) ?_
  refine lv_icmp_ge (tgt := 132) C.1 C.2.1 dX11_init_110 (by decide) (fun c58 => ?_) (fun c58 => ?_)
  rotate_left
  · exact absurd (by decide) c58
  refine lv_iconst (v := 0) C.1 C.2.1 dX11_init_132 (by decide) ?_
  refine lv_istore_n (lv' := [(1, .int 0), (0, .ref a0)]) C.1 C.2.1 dX11_init_133 rfl hl (by decide) rfl (fun ls hl => ?_)
  refine lv_iload_n C.1 C.2.1 dX11_init_134 rfl (lv_at hl 0 rfl) ?_
  refine lv_bipush (v := 6) C.1 C.2.1 dX11_init_135 (by decide) ?_
  refine lv_icmp_ge (tgt := 172) C.1 C.2.1 dX11_init_137 (by decide) (fun c59 => ?_) (fun c59 => ?_)
  · exact absurd c59 (by decide)
  refine lv_aload_n C.1 C.2.1 dX11_init_140 rfl (lv_at hl 1 rfl) ?_
  replace h := ob h; obtain ⟨p60, ep60, h⟩ := h
  refine sx_getV C hs fo_X11_33 (gR_v ep60) dX11_init_141 ?_
  refine lv_iload_n C.1 C.2.1 dX11_init_144 rfl (lv_at hl 0 rfl) ?_
  replace h := ol h; obtain ⟨τ61, eτ61, h⟩ := h
  refine sx_new C hs no_X11_31 (Nat.le_of_ble_eq_true rfl) (Nat.le_of_ble_eq_true rfl) dX11_init_145 (fun H hs => ?_)
  replace hs := HS.nm eτ61 hs
  refine lv_dup C.1 C.2.1 dX11_init_148 rfl ?_
  replace h := ob3 h; obtain ⟨x62, τ63, y64, ex62, h⟩ := h
  refine sx_callN (As := []) (rest := [.ref (y32 + 4), .int 0, .ref p60]) C hs (c_X8_init ex62) mo_X8_init q231 rfl hl.1 ⟨⟨(Nat.le_of_ble_eq_true rfl), (Nat.le_of_ble_eq_true rfl)⟩, (Nat.le_of_ble_eq_true rfl), (Nat.le_of_ble_eq_true rfl)⟩ rfl (Nat.le_of_ble_eq_true rfl) dX11_init_149 (fun H locs hs => ?_)
  replace h := ob h; obtain ⟨τ65, eτ65, h⟩ := h
  refine sx_aast (r := (RX8, TX8, 3)) C hs (by decide) rfl rfl eτ65 dX11_init_152 (fun H locs hs => ?_)
  refine lv_aload_n C.1 C.2.1 dX11_init_153 rfl (lv_at hl 1 rfl) ?_
  replace h := ob h; obtain ⟨p66, ep66, h⟩ := h
  refine sx_getV C hs fo_X11_37 (gR_v ep66) dX11_init_154 ?_
  refine lv_iload_n C.1 C.2.1 dX11_init_157 rfl (lv_at hl 0 rfl) ?_
  replace h := ol h; obtain ⟨τ67, eτ67, h⟩ := h
  refine sx_new C hs no_X11_31 (Nat.le_of_ble_eq_true rfl) (Nat.le_of_ble_eq_true rfl) dX11_init_158 (fun H hs => ?_)
  replace hs := HS.nm eτ67 hs
  refine lv_dup C.1 C.2.1 dX11_init_161 rfl ?_
  replace h := ob3 h; obtain ⟨x68, τ69, y70, ex68, h⟩ := h
  refine sx_callN (As := []) (rest := [.ref y64, .int 0, .ref p66]) C hs (c_X8_init ex68) mo_X8_init q231 rfl hl.1 ⟨⟨(Nat.le_of_ble_eq_true rfl), (Nat.le_of_ble_eq_true rfl)⟩, (Nat.le_of_ble_eq_true rfl), (Nat.le_of_ble_eq_true rfl)⟩ rfl (Nat.le_of_ble_eq_true rfl) dX11_init_162 (fun H locs hs => ?_)
  replace h := ob h; obtain ⟨τ71, eτ71, h⟩ := h
  refine sx_aast (r := (RX8, TX8, 3)) C hs (by decide) rfl rfl eτ71 dX11_init_165 (fun H locs hs => ?_)
  refine lv_iinc (v := 1) (lv' := [(1, .int 1), (0, .ref a0)]) C.1 C.2.1 dX11_init_166 hl (k := 0) rfl (by decide) (by decide) rfl (fun ls hl => ?_)
  refine lv_goto (tgt := 134) C.1 C.2.1 dX11_init_169 (by decide) ?_
  refine lv_iload_n C.1 C.2.1 dX11_init_134 rfl (lv_at hl 0 rfl) ?_
  refine lv_bipush (v := 6) C.1 C.2.1 dX11_init_135 (by decide) ?_
  refine lv_icmp_ge (tgt := 172) C.1 C.2.1 dX11_init_137 (by decide) (fun c72 => ?_) (fun c72 => ?_)
  · exact absurd c72 (by decide)
  refine lv_aload_n C.1 C.2.1 dX11_init_140 rfl (lv_at hl 1 rfl) ?_
  replace h := ob h; obtain ⟨p73, ep73, h⟩ := h
  refine sx_getV C hs fo_X11_33 (gR_v ep73) dX11_init_141 ?_
  refine lv_iload_n C.1 C.2.1 dX11_init_144 rfl (lv_at hl 0 rfl) ?_
  replace h := ol h; obtain ⟨τ74, eτ74, h⟩ := h
  refine sx_new C hs no_X11_31 (Nat.le_of_ble_eq_true rfl) (Nat.le_of_ble_eq_true rfl) dX11_init_145 (fun H hs => ?_)
  replace hs := HS.nm eτ74 hs
  refine lv_dup C.1 C.2.1 dX11_init_148 rfl ?_
  replace h := ob3 h; obtain ⟨x75, τ76, y77, ex75, h⟩ := h
  refine sx_callN (As := []) (rest := [.ref y70, .int 1, .ref p73]) C hs (c_X8_init ex75) mo_X8_init q231 rfl hl.1 ⟨⟨(Nat.le_of_ble_eq_true rfl), (Nat.le_of_ble_eq_true rfl)⟩, (Nat.le_of_ble_eq_true rfl), (Nat.le_of_ble_eq_true rfl)⟩ rfl (Nat.le_of_ble_eq_true rfl) dX11_init_149 (fun H locs hs => ?_)
  replace h := ob h; obtain ⟨τ78, eτ78, h⟩ := h
  refine sx_aast (r := (RX8, TX8, 3)) C hs (by decide) rfl rfl eτ78 dX11_init_152 (fun H locs hs => ?_)
  refine lv_aload_n C.1 C.2.1 dX11_init_153 rfl (lv_at hl 1 rfl) ?_
  replace h := ob h; obtain ⟨p79, ep79, h⟩ := h
  refine sx_getV C hs fo_X11_37 (gR_v ep79) dX11_init_154 ?_
  refine lv_iload_n C.1 C.2.1 dX11_init_157 rfl (lv_at hl 0 rfl) ?_
  replace h := ol h; obtain ⟨τ80, eτ80, h⟩ := h
  refine sx_new C hs no_X11_31 (Nat.le_of_ble_eq_true rfl) (Nat.le_of_ble_eq_true rfl) dX11_init_158 (fun H hs => ?_)
  replace hs := HS.nm eτ80 hs
  refine lv_dup C.1 C.2.1 dX11_init_161 rfl ?_
  replace h := ob3 h; obtain ⟨x81, τ82, y83, ex81, h⟩ := h
  refine sx_callN (As := []) (rest := [.ref y77, .int 1, .ref p79]) C hs (c_X8_init ex81) mo_X8_init q231 rfl hl.1 ⟨⟨(Nat.le_of_ble_eq_true rfl), (Nat.le_of_ble_eq_true rfl)⟩, (Nat.le_of_ble_eq_true rfl), (Nat.le_of_ble_eq_true rfl)⟩ rfl (Nat.le_of_ble_eq_true rfl) dX11_init_162 (fun H locs hs => ?_)
  replace h := ob h; obtain ⟨τ84, eτ84, h⟩ := h
  refine sx_aast (r := (RX8, TX8, 3)) C hs (by decide) rfl rfl eτ84 dX11_init_165 (fun H locs hs => ?_)
  refine lv_iinc (v := 2) (lv' := [(1, .int 2), (0, .ref a0)]) C.1 C.2.1 dX11_init_166 hl (k := 0) rfl (by decide) (by decide) rfl (fun ls hl => ?_)
  refine lv_goto (tgt := 134) C.1 C.2.1 dX11_init_169 (by decide) ?_
  refine lv_iload_n C.1 C.2.1 dX11_init_134 rfl (lv_at hl 0 rfl) ?_
  refine lv_bipush (v := 6) C.1 C.2.1 dX11_init_135 (by decide) ?_
  refine lv_icmp_ge (tgt := 172) C.1 C.2.1 dX11_init_137 (by decide) (fun c85 => ?_) (fun c85 => ?_)
  · exact absurd c85 (by decide)
  refine lv_aload_n C.1 C.2.1 dX11_init_140 rfl (lv_at hl 1 rfl) ?_
  replace h := ob h; obtain ⟨p86, ep86, h⟩ := h
  refine sx_getV C hs fo_X11_33 (gR_v ep86) dX11_init_141 ?_
  refine lv_iload_n C.1 C.2.1 dX11_init_144 rfl (lv_at hl 0 rfl) ?_
  replace h := ol h; obtain ⟨τ87, eτ87, h⟩ := h
  refine sx_new C hs no_X11_31 (Nat.le_of_ble_eq_true rfl) (Nat.le_of_ble_eq_true rfl) dX11_init_145 (fun H hs => ?_)
  replace hs := HS.nm eτ87 hs
  refine lv_dup C.1 C.2.1 dX11_init_148 rfl ?_
  replace h := ob3 h; obtain ⟨x88, τ89, y90, ex88, h⟩ := h
  refine sx_callN (As := []) (rest := [.ref y83, .int 2, .ref p86]) C hs (c_X8_init ex88) mo_X8_init q231 rfl hl.1 ⟨⟨(Nat.le_of_ble_eq_true rfl), (Nat.le_of_ble_eq_true rfl)⟩, (Nat.le_of_ble_eq_true rfl), (Nat.le_of_ble_eq_true rfl)⟩ rfl (Nat.le_of_ble_eq_true rfl) dX11_init_149 (fun H locs hs => ?_)
  replace h := ob h; obtain ⟨τ91, eτ91, h⟩ := h
  refine sx_aast (r := (RX8, TX8, 3)) C hs (by decide) rfl rfl eτ91 dX11_init_152 (fun H locs hs => ?_)
  refine lv_aload_n C.1 C.2.1 dX11_init_153 rfl (lv_at hl 1 rfl) ?_
  replace h := ob h; obtain ⟨p92, ep92, h⟩ := h
  refine sx_getV C hs fo_X11_37 (gR_v ep92) dX11_init_154 ?_
  refine lv_iload_n C.1 C.2.1 dX11_init_157 rfl (lv_at hl 0 rfl) ?_
  replace h := ol h; obtain ⟨τ93, eτ93, h⟩ := h
  refine sx_new C hs no_X11_31 (Nat.le_of_ble_eq_true rfl) (Nat.le_of_ble_eq_true rfl) dX11_init_158 (fun H hs => ?_)
  replace hs := HS.nm eτ93 hs
  refine lv_dup C.1 C.2.1 dX11_init_161 rfl ?_
  replace h := ob3 h; obtain ⟨x94, τ95, y96, ex94, h⟩ := h
  refine sx_callN (As := []) (rest := [.ref y90, .int 2, .ref p92]) C hs (c_X8_init ex94) mo_X8_init q231 rfl hl.1 ⟨⟨(Nat.le_of_ble_eq_true rfl), (Nat.le_of_ble_eq_true rfl)⟩, (Nat.le_of_ble_eq_true rfl), (Nat.le_of_ble_eq_true rfl)⟩ rfl (Nat.le_of_ble_eq_true rfl) dX11_init_162 (fun H locs hs => ?_)
  replace h := ob h; obtain ⟨τ97, eτ97, h⟩ := h
  refine sx_aast (r := (RX8, TX8, 3)) C hs (by decide) rfl rfl eτ97 dX11_init_165 (fun H locs hs => ?_)
  refine lv_iinc (v := 3) (lv' := [(1, .int 3), (0, .ref a0)]) C.1 C.2.1 dX11_init_166 hl (k := 0) rfl (by decide) (by decide) rfl (fun ls hl => ?_)
  refine lv_goto (tgt := 134) C.1 C.2.1 dX11_init_169 (by decide) ?_
  refine lv_iload_n C.1 C.2.1 dX11_init_134 rfl (lv_at hl 0 rfl) ?_
  refine lv_bipush (v := 6) C.1 C.2.1 dX11_init_135 (by decide) ?_
  refine lv_icmp_ge (tgt := 172) C.1 C.2.1 dX11_init_137 (by decide) (fun c98 => ?_) (fun c98 => ?_)
  · exact absurd c98 (by decide)
  refine lv_aload_n C.1 C.2.1 dX11_init_140 rfl (lv_at hl 1 rfl) ?_
  replace h := ob h; obtain ⟨p99, ep99, h⟩ := h
  refine sx_getV C hs fo_X11_33 (gR_v ep99) dX11_init_141 ?_
  refine lv_iload_n C.1 C.2.1 dX11_init_144 rfl (lv_at hl 0 rfl) ?_
  replace h := ol h; obtain ⟨τ100, eτ100, h⟩ := h
  refine sx_new C hs no_X11_31 (Nat.le_of_ble_eq_true rfl) (Nat.le_of_ble_eq_true rfl) dX11_init_145 (fun H hs => ?_)
  replace hs := HS.nm eτ100 hs
  refine lv_dup C.1 C.2.1 dX11_init_148 rfl ?_
  replace h := ob3 h; obtain ⟨x101, τ102, y103, ex101, h⟩ := h
  refine sx_callN (As := []) (rest := [.ref y96, .int 3, .ref p99]) C hs (c_X8_init ex101) mo_X8_init q231 rfl hl.1 ⟨⟨(Nat.le_of_ble_eq_true rfl), (Nat.le_of_ble_eq_true rfl)⟩, (Nat.le_of_ble_eq_true rfl), (Nat.le_of_ble_eq_true rfl)⟩ rfl (Nat.le_of_ble_eq_true rfl) dX11_init_149 (fun H locs hs => ?_)
  replace h := ob h; obtain ⟨τ104, eτ104, h⟩ := h
  refine sx_aast (r := (RX8, TX8, 3)) C hs (by decide) rfl rfl eτ104 dX11_init_152 (fun H locs hs => ?_)
  refine lv_aload_n C.1 C.2.1 dX11_init_153 rfl (lv_at hl 1 rfl) ?_
  replace h := ob h; obtain ⟨p105, ep105, h⟩ := h
  refine sx_getV C hs fo_X11_37 (gR_v ep105) dX11_init_154 ?_
  refine lv_iload_n C.1 C.2.1 dX11_init_157 rfl (lv_at hl 0 rfl) ?_
  replace h := ol h; obtain ⟨τ106, eτ106, h⟩ := h
  refine sx_new C hs no_X11_31 (Nat.le_of_ble_eq_true rfl) (Nat.le_of_ble_eq_true rfl) dX11_init_158 (fun H hs => ?_)
  replace hs := HS.nm eτ106 hs
  refine lv_dup C.1 C.2.1 dX11_init_161 rfl ?_
  replace h := ob3 h; obtain ⟨x107, τ108, y109, ex107, h⟩ := h
  refine sx_callN (As := []) (rest := [.ref y103, .int 3, .ref p105]) C hs (c_X8_init ex107) mo_X8_init q231 rfl hl.1 ⟨⟨(Nat.le_of_ble_eq_true rfl), (Nat.le_of_ble_eq_true rfl)⟩, (Nat.le_of_ble_eq_true rfl), (Nat.le_of_ble_eq_true rfl)⟩ rfl (Nat.le_of_ble_eq_true rfl) dX11_init_162 (fun H locs hs => ?_)
  replace h := ob h; obtain ⟨τ110, eτ110, h⟩ := h
  refine sx_aast (r := (RX8, TX8, 3)) C hs (by decide) rfl rfl eτ110 dX11_init_165 (fun H locs hs => ?_)
  refine lv_iinc (v := 4) (lv' := [(1, .int 4), (0, .ref a0)]) C.1 C.2.1 dX11_init_166 hl (k := 0) rfl (by decide) (by decide) rfl (fun ls hl => ?_)
  refine lv_goto (tgt := 134) C.1 C.2.1 dX11_init_169 (by decide) ?_
  refine lv_iload_n C.1 C.2.1 dX11_init_134 rfl (lv_at hl 0 rfl) ?_
  refine lv_bipush (v := 6) C.1 C.2.1 dX11_init_135 (by decide) ?_
  refine lv_icmp_ge (tgt := 172) C.1 C.2.1 dX11_init_137 (by decide) (fun c111 => ?_) (fun c111 => ?_)
  · exact absurd c111 (by decide)
  refine lv_aload_n C.1 C.2.1 dX11_init_140 rfl (lv_at hl 1 rfl) ?_
  replace h := ob h; obtain ⟨p112, ep112, h⟩ := h
  refine sx_getV C hs fo_X11_33 (gR_v ep112) dX11_init_141 ?_
  refine lv_iload_n C.1 C.2.1 dX11_init_144 rfl (lv_at hl 0 rfl) ?_
  replace h := ol h; obtain ⟨τ113, eτ113, h⟩ := h
  refine sx_new C hs no_X11_31 (Nat.le_of_ble_eq_true rfl) (Nat.le_of_ble_eq_true rfl) dX11_init_145 (fun H hs => ?_)
  replace hs := HS.nm eτ113 hs
  refine lv_dup C.1 C.2.1 dX11_init_148 rfl ?_
  replace h := ob3 h; obtain ⟨x114, τ115, y116, ex114, h⟩ := h
  refine sx_callN (As := []) (rest := [.ref y109, .int 4, .ref p112]) C hs (c_X8_init ex114) mo_X8_init q231 rfl hl.1 ⟨⟨(Nat.le_of_ble_eq_true rfl), (Nat.le_of_ble_eq_true rfl)⟩, (Nat.le_of_ble_eq_true rfl), (Nat.le_of_ble_eq_true rfl)⟩ rfl (Nat.le_of_ble_eq_true rfl) dX11_init_149 (fun H locs hs => ?_)
  replace h := ob h; obtain ⟨τ117, eτ117, h⟩ := h
  refine sx_aast (r := (RX8, TX8, 3)) C hs (by decide) rfl rfl eτ117 dX11_init_152 (fun H locs hs => ?_)
  refine lv_aload_n C.1 C.2.1 dX11_init_153 rfl (lv_at hl 1 rfl) ?_
  replace h := ob h; obtain ⟨p118, ep118, h⟩ := h
  refine sx_getV C hs fo_X11_37 (gR_v ep118) dX11_init_154 ?_
  refine lv_iload_n C.1 C.2.1 dX11_init_157 rfl (lv_at hl 0 rfl) ?_
  replace h := ol h; obtain ⟨τ119, eτ119, h⟩ := h
  refine sx_new C hs no_X11_31 (Nat.le_of_ble_eq_true rfl) (Nat.le_of_ble_eq_true rfl) dX11_init_158 (fun H hs => ?_)
  replace hs := HS.nm eτ119 hs
  refine lv_dup C.1 C.2.1 dX11_init_161 rfl ?_
  replace h := ob3 h; obtain ⟨x120, τ121, y122, ex120, h⟩ := h
  refine sx_callN (As := []) (rest := [.ref y116, .int 4, .ref p118]) C hs (c_X8_init ex120) mo_X8_init q231 rfl hl.1 ⟨⟨(Nat.le_of_ble_eq_true rfl), (Nat.le_of_ble_eq_true rfl)⟩, (Nat.le_of_ble_eq_true rfl), (Nat.le_of_ble_eq_true rfl)⟩ rfl (Nat.le_of_ble_eq_true rfl) dX11_init_162 (fun H locs hs => ?_)
  replace h := ob h; obtain ⟨τ123, eτ123, h⟩ := h
  refine sx_aast (r := (RX8, TX8, 3)) C hs (by decide) rfl rfl eτ123 dX11_init_165 (fun H locs hs => ?_)
  refine lv_iinc (v := 5) (lv' := [(1, .int 5), (0, .ref a0)]) C.1 C.2.1 dX11_init_166 hl (k := 0) rfl (by decide) (by decide) rfl (fun ls hl => ?_)
  refine lv_goto (tgt := 134) C.1 C.2.1 dX11_init_169 (by decide) ?_
  refine lv_iload_n C.1 C.2.1 dX11_init_134 rfl (lv_at hl 0 rfl) ?_
  refine lv_bipush (v := 6) C.1 C.2.1 dX11_init_135 (by decide) ?_
  refine lv_icmp_ge (tgt := 172) C.1 C.2.1 dX11_init_137 (by decide) (fun c124 => ?_) (fun c124 => ?_)
  · exact absurd c124 (by decide)
  refine lv_aload_n C.1 C.2.1 dX11_init_140 rfl (lv_at hl 1 rfl) ?_
  replace h := ob h; obtain ⟨p125, ep125, h⟩ := h
  refine sx_getV C hs fo_X11_33 (gR_v ep125) dX11_init_141 ?_
  refine lv_iload_n C.1 C.2.1 dX11_init_144 rfl (lv_at hl 0 rfl) ?_
  replace h := ol h; obtain ⟨τ126, eτ126, h⟩ := h
  refine sx_new C hs no_X11_31 (Nat.le_of_ble_eq_true rfl) (Nat.le_of_ble_eq_true rfl) dX11_init_145 (fun H hs => ?_)
  replace hs := HS.nm eτ126 hs
  refine lv_dup C.1 C.2.1 dX11_init_148 rfl ?_
  replace h := ob3 h; obtain ⟨x127, τ128, y129, ex127, h⟩ := h
  refine sx_callN (As := []) (rest := [.ref y122, .int 5, .ref p125]) C hs (c_X8_init ex127) mo_X8_init q231 rfl hl.1 ⟨⟨(Nat.le_of_ble_eq_true rfl), (Nat.le_of_ble_eq_true rfl)⟩, (Nat.le_of_ble_eq_true rfl), (Nat.le_of_ble_eq_true rfl)⟩ rfl (Nat.le_of_ble_eq_true rfl) dX11_init_149 (fun H locs hs => ?_)
  replace h := ob h; obtain ⟨τ130, eτ130, h⟩ := h
  refine sx_aast (r := (RX8, TX8, 3)) C hs (by decide) rfl rfl eτ130 dX11_init_152 (fun H locs hs => ?_)
  refine lv_aload_n C.1 C.2.1 dX11_init_153 rfl (lv_at hl 1 rfl) ?_
  replace h := ob h; obtain ⟨p131, ep131, h⟩ := h
  refine sx_getV C hs fo_X11_37 (gR_v ep131) dX11_init_154 ?_
  refine lv_iload_n C.1 C.2.1 dX11_init_157 rfl (lv_at hl 0 rfl) ?_
  replace h := ol h; obtain ⟨τ132, eτ132, h⟩ := h
  refine sx_new C hs no_X11_31 (Nat.le_of_ble_eq_true rfl) (Nat.le_of_ble_eq_true rfl) dX11_init_158 (fun H hs => ?_)
  replace hs := HS.nm eτ132 hs
  refine lv_dup C.1 C.2.1 dX11_init_161 rfl ?_
  replace h := ob3 h; obtain ⟨x133, τ134, y135, ex133, h⟩ := h
  refine sx_callN (As := []) (rest := [.ref y129, .int 5, .ref p131]) C hs (c_X8_init ex133) mo_X8_init q231 rfl hl.1 ⟨⟨(Nat.le_of_ble_eq_true rfl), (Nat.le_of_ble_eq_true rfl)⟩, (Nat.le_of_ble_eq_true rfl), (Nat.le_of_ble_eq_true rfl)⟩ rfl (Nat.le_of_ble_eq_true rfl) dX11_init_162 (fun H locs hs => ?_)
  replace h := ob h; obtain ⟨τ136, eτ136, h⟩ := h
  refine sx_aast (r := (RX8, TX8, 3)) C hs (by decide) rfl rfl eτ136 dX11_init_165 (fun H locs hs => ?_)
  refine lv_iinc (v := 6) (lv' := [(1, .int 6), (0, .ref a0)]) C.1 C.2.1 dX11_init_166 hl (k := 0) rfl (by decide) (by decide) rfl (fun ls hl => ?_)
  refine lv_goto (tgt := 134) C.1 C.2.1 dX11_init_169 (by decide) ?_
  refine lv_iload_n C.1 C.2.1 dX11_init_134 rfl (lv_at hl 0 rfl) ?_
  refine lv_bipush (v := 6) C.1 C.2.1 dX11_init_135 (by decide) ?_
  refine lv_icmp_ge (tgt := 172) C.1 C.2.1 dX11_init_137 (by decide) (fun c137 => ?_) (fun c137 => ?_)
  rotate_left
  · exact absurd (by decide) c137
  cases h
  exact sx_vret C hs hr dX11_init_172
def f_X11_checkShelf (v0 : Int32) : Option ((Nat ⊕ Unit)) :=
 if v0 < 0 then
 some (.inl 0)
 else
 if v0 < 12 then
 some (.inr ())
 else
 some (.inl 0)
set_option maxHeartbeats 4000000 in
set_option maxRecDepth 100000 in
theorem c_X11_checkShelf {l : Launch} (hfl : l.stackTraces = false) {g : PP} {σ : Sto} {sz : Nat} {v0 : Int32} {r9 : Nat ⊕ Unit} (h : f_X11_checkShelf v0 = some r9) : vx_Met l yX11_checkShelf [Cond.code yX11_checkShelf cX11_checkShelf 1 none] (rmk 6 (cX r9) (cY r9) 100) (Pre g σ sz [.int v0]) (PstX g (Sum.map id vV r9) σ sz) (XpX g (Sum.map id vV r9) σ sz) (cX r9) (cY r9) (Aw g) := by
  refine vx_ofW (cc := cX11_checkShelf) (maxL := 1) (ret := none) (by decide) rfl ?_
  intro p e s m args below meth c s₁ B hml ht hv
  obtain ⟨rfl, C, hs⟩ := ctx_of B hml hv
  have C : Cx g p s m meth c cX11_checkShelf 1 "Tillhouse" := C
  have hr := B.returns
  have hl := lv_entry ([.int v0]) (n := 1) (Nat.le_of_ble_eq_true rfl)
  rw [lg_entry_eq]
  generalize (lg_sl ([.int v0]) ++ List.replicate (1 - (lg_sl ([.int v0])).length) Slot.unset).toArray = ls at hl ⊢
  have hl : lv_has ls 1 [(0, .int v0)] := hl
  unfold f_X11_checkShelf at h
  refine lv_iload_n C.1 C.2.1 dX11_checkShelf_0 rfl (lv_at hl 0 rfl) ?_
  refine lv_if_lt (tgt := 10) C.1 C.2.1 dX11_checkShelf_1 (by decide) (fun c1 => ?_) (fun c1 => ?_)
  · replace h := ip c1 h
    cases h
    exact sx_throw C hfl hs to_X11_195_197 ht hl.1 dX11_checkShelf_10 dX11_checkShelf_13 dX11_checkShelf_14 dX11_checkShelf_16 dX11_checkShelf_19 ⟨by decide, (Nat.le_of_ble_eq_true rfl), (Nat.le_of_ble_eq_true rfl), (Nat.le_of_ble_eq_true rfl)⟩ ⟨(Nat.le_of_ble_eq_true rfl), (Nat.le_of_ble_eq_true rfl)⟩
  · replace h := iN c1 h
    refine lv_iload_n C.1 C.2.1 dX11_checkShelf_4 rfl (lv_at hl 0 rfl) ?_
    refine lv_bipush (v := 12) C.1 C.2.1 dX11_checkShelf_5 (by decide) ?_
    refine lv_icmp_lt (tgt := 20) C.1 C.2.1 dX11_checkShelf_7 (by decide) (fun c2 => ?_) (fun c2 => ?_)
    · replace h := ip c2 h
      cases h
      exact sx_vretX C hs hr dX11_checkShelf_20
    · replace h := iN c2 h
      cases h
      exact sx_throw C hfl hs to_X11_195_197 ht hl.1 dX11_checkShelf_10 dX11_checkShelf_13 dX11_checkShelf_14 dX11_checkShelf_16 dX11_checkShelf_19 ⟨by decide, (Nat.le_of_ble_eq_true rfl), (Nat.le_of_ble_eq_true rfl), (Nat.le_of_ble_eq_true rfl)⟩ ⟨(Nat.le_of_ble_eq_true rfl), (Nat.le_of_ble_eq_true rfl)⟩
def f_X11_put (N : Nat) (σ : Sto) (sz : Nat) (a0 : Nat) (v1 : Int32) (v2 : Int64) (v4 : Int32) : Option ((Nat ⊕ Int32) × Sto × Nat) :=
 (f_X11_checkShelf v1).bind fun u2 =>
 bs u2 (fun j3 => some (.inl j3, σ, sz)) fun x1 =>
 (f_X10_isInRange v2 v4).bind fun x4 =>
 if x4 = 0 then
 some (.inl 1, σ, sz)
 else
 lt_ (nO σ sz 9 dvX10) fun τ6 =>
 b2 (f_X10_init τ6 sz v2 v4) fun x7 τ8 =>
 (gR τ8 a0 10 0).bind fun p9 =>
 (sQ τ8 p9 4 v1 sz).bind fun τ10 =>
 (isO τ10 sz 9).bind fun _ =>
 (f_X10_digits N τ10 sz).bind fun x12 =>
 some (.inr x12, τ10, sz + 1)
set_option maxHeartbeats 4000000 in
set_option maxRecDepth 100000 in
theorem c_X11_put {l : Launch} (hfl : l.stackTraces = false) {g : PP} {N : Nat} {σ : Sto} {sz : Nat} {a0 : Nat} {v1 : Int32} {v2 : Int64} {v4 : Int32} {r9 : Nat ⊕ Int32} {σ9 : Sto} {sz9 : Nat} (h : f_X11_put N σ sz a0 v1 v2 v4 = some (r9, σ9, sz9)) : vx_Met l yX11_put [Cond.code yX11_put cX11_put 6 (some .int)] (rmk 7 1 6 120) (Pre g σ sz [.ref a0, .int v1, .long v2, .int v4]) (PstX g (Sum.map id vI r9) σ9 sz9) (XpX g (Sum.map id vI r9) σ9 sz9) 1 6 (Aw g) := by
  refine vx_ofW (cc := cX11_put) (maxL := 6) (ret := (some .int)) (by decide) rfl ?_
  intro p e s m args below meth c s₁ B hml ht hv
  obtain ⟨rfl, C, hs⟩ := ctx_of B hml hv
  have C : Cx g p s m meth c cX11_put 6 "Tillhouse" := C
  have hr := B.returns
  have hl := lv_entry ([.ref a0, .int v1, .long v2, .int v4]) (n := 6) (Nat.le_of_ble_eq_true rfl)
  rw [lg_entry_eq]
  generalize (lg_sl ([.ref a0, .int v1, .long v2, .int v4]) ++ List.replicate (6 - (lg_sl ([.ref a0, .int v1, .long v2, .int v4])).length) Slot.unset).toArray = ls at hl ⊢
  have hl : lv_has ls 6 [(0, .ref a0), (1, .int v1), (2, .long v2), (4, .int v4)] := hl
  unfold f_X11_put at h
  refine lv_iload_n C.1 C.2.1 dX11_put_0 rfl (lv_at hl 1 rfl) ?_
  replace h := ob h; obtain ⟨u2, ex1, h⟩ := h
  rcases u2 with j3 | x1
  · replace h := bsl h
    cases h
    refine sx_xcallS (As := [.int v1]) (rest := []) C hs (c_X11_checkShelf hfl ex1) mo_X11_checkShelf q424 rfl hl.1 ⟨⟨(Nat.le_of_ble_eq_true rfl), (Nat.le_of_ble_eq_true rfl)⟩, (Nat.le_of_ble_eq_true rfl), (Nat.le_of_ble_eq_true rfl)⟩ rfl (Nat.le_of_ble_eq_true rfl) dX11_put_1 (fun k9 hk9 ce q9 H locs a1 a2 a3 a4 a5 a6 => ?_) (fun vr hv => (inlr hv).elim)
    obtain rfl := Sum.inl.inj hk9
    exact sx_out C ht a1 a2 a3 a4 a5 a6 (Nat.le_of_ble_eq_true rfl) (Nat.le_of_ble_eq_true rfl)
  · replace h := bsr h
    refine sx_xcallS (As := [.int v1]) (rest := []) C hs (c_X11_checkShelf hfl ex1) mo_X11_checkShelf q424 rfl hl.1 ⟨⟨(Nat.le_of_ble_eq_true rfl), (Nat.le_of_ble_eq_true rfl)⟩, (Nat.le_of_ble_eq_true rfl), (Nat.le_of_ble_eq_true rfl)⟩ rfl (Nat.le_of_ble_eq_true rfl) dX11_put_1 (fun k9 hk9 => (inrl hk9).elim) (fun vr hv H locs hs => ?_)
    obtain rfl := Sum.inr.inj hv
    refine W.eq (g2 := F0 m 4 ls []) rfl ?_
    refine W.widen (k := 0) (n := 0) (Nat.le_of_ble_eq_true rfl) (Nat.le_of_ble_eq_true rfl) ?_
    refine lv_lload_n C.1 C.2.1 dX11_put_4 rfl (lv_at hl 2 rfl) ?_
    refine lv_iload C.1 C.2.1 dX11_put_5 (lv_at hl 3 rfl) ?_
    replace h := ob h; obtain ⟨x4, ex4, h⟩ := h
    refine sx_callS (As := [.long v2, .int v4]) (rest := []) C hs (c_X10_isInRange ex4) mo_X10_isInRange q440 rfl hl.1 ⟨⟨(Nat.le_of_ble_eq_true rfl), (Nat.le_of_ble_eq_true rfl)⟩, (Nat.le_of_ble_eq_true rfl), (Nat.le_of_ble_eq_true rfl)⟩ rfl (Nat.le_of_ble_eq_true rfl) dX11_put_7 (fun H locs hs => ?_)
    refine W.eq (g2 := F0 m 10 ls [.int x4]) rfl ?_
    refine lv_if_ne (tgt := 23) C.1 C.2.1 dX11_put_10 (by decide) (fun c5 => ?_) (fun c5 => ?_)
    · replace h := iN c5 h
      replace h := ol h; obtain ⟨τ6, eτ6, h⟩ := h
      refine sx_new C hs no_X11_9 (Nat.le_of_ble_eq_true rfl) (Nat.le_of_ble_eq_true rfl) dX11_put_23 (fun H hs => ?_)
      replace hs := HS.nm eτ6 hs
      refine lv_dup C.1 C.2.1 dX11_put_26 rfl ?_
      refine lv_lload_n C.1 C.2.1 dX11_put_27 rfl (lv_at hl 2 rfl) ?_
      refine lv_iload C.1 C.2.1 dX11_put_28 (lv_at hl 3 rfl) ?_
      replace h := ob2 h; obtain ⟨x7, τ8, ex7, h⟩ := h
      refine sx_callI (As := [.long v2, .int v4]) (rest := [.ref sz]) C hs (c_X10_init ex7) mo_X10_init q462 rfl hl.1 ⟨⟨(Nat.le_of_ble_eq_true rfl), (Nat.le_of_ble_eq_true rfl)⟩, (Nat.le_of_ble_eq_true rfl), (Nat.le_of_ble_eq_true rfl)⟩ rfl (Nat.le_of_ble_eq_true rfl) dX11_put_30 (fun H locs hs => ?_)
      refine lv_astore (lv' := [(5, .ref sz), (0, .ref a0), (1, .int v1), (2, .long v2), (4, .int v4)]) C.1 C.2.1 dX11_put_33 hl (by decide) rfl (fun ls hl => ?_)
      refine lv_aload_n C.1 C.2.1 dX11_put_35 rfl (lv_at hl 1 rfl) ?_
      replace h := ob h; obtain ⟨p9, ep9, h⟩ := h
      refine sx_getV C hs fo_X11_11 (gR_v ep9) dX11_put_36 ?_
      refine lv_iload_n C.1 C.2.1 dX11_put_39 rfl (lv_at hl 2 rfl) ?_
      refine lv_aload C.1 C.2.1 dX11_put_40 (lv_at hl 0 rfl) ?_
      replace h := ob h; obtain ⟨τ10, eτ10, h⟩ := h
      refine sx_aast (r := (RX10, TX10, 2)) C hs (by decide) rfl rfl eτ10 dX11_put_42 (fun H locs hs => ?_)
      refine lv_aload C.1 C.2.1 dX11_put_43 (lv_at hl 0 rfl) ?_
      replace h := ob h; obtain ⟨⟨⟩, i11, h⟩ := h
      replace h := ob h; obtain ⟨x12, ex12, h⟩ := h
      refine sx_callV (As := []) (rest := []) C hs (c_X10_digits ex12) mo_X10_digits q475 i11 rfl rfl hl.1 ⟨⟨(Nat.le_of_ble_eq_true rfl), (Nat.le_of_ble_eq_true rfl)⟩, (Nat.le_of_ble_eq_true rfl), (Nat.le_of_ble_eq_true rfl)⟩ rfl (Nat.le_of_ble_eq_true rfl) dX11_put_45 (fun H locs hs => ?_)
      refine W.eq (g2 := F0 m 48 ls [.int x12]) rfl ?_
      cases h
      refine W.widen (k := 1) (n := 6) (Nat.le_of_ble_eq_true rfl) (Nat.le_of_ble_eq_true rfl) ?_
      exact sx_iretX C hs hr rfl dX11_put_48
    · replace h := ip c5 h
      cases h
      exact sx_throw C hfl hs to_X11_81_83 ht hl.1 dX11_put_13 dX11_put_16 dX11_put_17 dX11_put_19 dX11_put_22 ⟨by decide, (Nat.le_of_ble_eq_true rfl), (Nat.le_of_ble_eq_true rfl), (Nat.le_of_ble_eq_true rfl)⟩ ⟨(Nat.le_of_ble_eq_true rfl), (Nat.le_of_ble_eq_true rfl)⟩
def f_X11_type (σ : Sto) (a0 : Nat) (v1 : Int32) : Option ((Nat ⊕ Int32) × Sto) :=
 (gR σ a0 10 1).bind fun p1 =>
 (isO σ p1 8).bind fun _ =>
 (f_X9_isFull σ p1).bind fun x3 =>
 if x3 = 0 then
 (gR σ a0 10 1).bind fun p5 =>
 (isO σ p5 8).bind fun _ =>
 b2 (f_X9_add σ p5 v1) fun x7 τ8 =>
 some (.inr x7, τ8)
 else
 some (.inl 4, σ)
set_option maxHeartbeats 4000000 in
set_option maxRecDepth 100000 in
theorem c_X11_type {l : Launch} (hfl : l.stackTraces = false) {g : PP} {σ : Sto} {sz : Nat} {a0 : Nat} {v1 : Int32} {r9 : Nat ⊕ Int32} {σ9 : Sto} (h : f_X11_type σ a0 v1 = some (r9, σ9)) : vx_Met l yX11_type [Cond.code yX11_type cX11_type 2 (some .int)] (rmk 6 (cX r9) (cY r9) 100) (Pre g σ sz [.ref a0, .int v1]) (PstX g (Sum.map id vI r9) σ9 sz) (XpX g (Sum.map id vI r9) σ9 sz) (cX r9) (cY r9) (Aw g) := by
  refine vx_ofW (cc := cX11_type) (maxL := 2) (ret := (some .int)) (by decide) rfl ?_
  intro p e s m args below meth c s₁ B hml ht hv
  obtain ⟨rfl, C, hs⟩ := ctx_of B hml hv
  have C : Cx g p s m meth c cX11_type 2 "Tillhouse" := C
  have hr := B.returns
  have hl := lv_entry ([.ref a0, .int v1]) (n := 2) (Nat.le_of_ble_eq_true rfl)
  rw [lg_entry_eq]
  generalize (lg_sl ([.ref a0, .int v1]) ++ List.replicate (2 - (lg_sl ([.ref a0, .int v1])).length) Slot.unset).toArray = ls at hl ⊢
  have hl : lv_has ls 2 [(0, .ref a0), (1, .int v1)] := hl
  unfold f_X11_type at h
  refine lv_aload_n C.1 C.2.1 dX11_type_0 rfl (lv_at hl 0 rfl) ?_
  replace h := ob h; obtain ⟨p1, ep1, h⟩ := h
  refine sx_getV C hs fo_X11_18 (gR_v ep1) dX11_type_1 ?_
  replace h := ob h; obtain ⟨⟨⟩, i2, h⟩ := h
  replace h := ob h; obtain ⟨x3, ex3, h⟩ := h
  refine sx_callV (As := []) (rest := []) C hs (c_X9_isFull ex3) mo_X9_isFull q499 i2 rfl rfl hl.1 ⟨⟨(Nat.le_of_ble_eq_true rfl), (Nat.le_of_ble_eq_true rfl)⟩, (Nat.le_of_ble_eq_true rfl), (Nat.le_of_ble_eq_true rfl)⟩ rfl (Nat.le_of_ble_eq_true rfl) dX11_type_4 (fun H locs hs => ?_)
  refine W.eq (g2 := F0 m 7 ls [.int x3]) rfl ?_
  refine lv_if_eq (tgt := 20) C.1 C.2.1 dX11_type_7 (by decide) (fun c4 => ?_) (fun c4 => ?_)
  · replace h := ip c4 h
    refine lv_aload_n C.1 C.2.1 dX11_type_20 rfl (lv_at hl 0 rfl) ?_
    replace h := ob h; obtain ⟨p5, ep5, h⟩ := h
    refine sx_getV C hs fo_X11_18 (gR_v ep5) dX11_type_21 ?_
    refine lv_iload_n C.1 C.2.1 dX11_type_24 rfl (lv_at hl 1 rfl) ?_
    replace h := ob h; obtain ⟨⟨⟩, i6, h⟩ := h
    replace h := ob2 h; obtain ⟨x7, τ8, ex7, h⟩ := h
    refine sx_callV (As := [.int v1]) (rest := []) C hs (c_X9_add ex7) mo_X9_add q519 i6 rfl rfl hl.1 ⟨⟨(Nat.le_of_ble_eq_true rfl), (Nat.le_of_ble_eq_true rfl)⟩, (Nat.le_of_ble_eq_true rfl), (Nat.le_of_ble_eq_true rfl)⟩ rfl (Nat.le_of_ble_eq_true rfl) dX11_type_25 (fun H locs hs => ?_)
    refine W.eq (g2 := F0 m 28 ls [.int x7]) rfl ?_
    cases h
    exact sx_iretX C hs hr rfl dX11_type_28
  · replace h := iN c4 h
    cases h
    exact sx_throw C hfl hs to_X11_99_101 ht hl.1 dX11_type_10 dX11_type_13 dX11_type_14 dX11_type_16 dX11_type_19 ⟨by decide, (Nat.le_of_ble_eq_true rfl), (Nat.le_of_ble_eq_true rfl), (Nat.le_of_ble_eq_true rfl)⟩ ⟨(Nat.le_of_ble_eq_true rfl), (Nat.le_of_ble_eq_true rfl)⟩
def f_X11_fault (N : Nat) (σ : Sto) (a0 : Nat) : Option Int32 :=
 (gR σ a0 10 1).bind fun p1 =>
 (isO σ p1 8).bind fun _ =>
 (f_X9_firstFault N σ p1).bind fun x3 =>
 some (x3)
set_option maxHeartbeats 4000000 in
set_option maxRecDepth 100000 in
theorem c_X11_fault {l : Launch} {g : PP} {N : Nat} {σ : Sto} {sz : Nat} {a0 : Nat} {r9 : Int32} (h : f_X11_fault N σ a0 = some r9) : Met l yX11_fault [Cond.code yX11_fault cX11_fault 1 (some .int)] (rmk 5 0 0 105) (Pre g σ sz [.ref a0]) (Pst g (vI r9) σ sz) 0 0 (Aw g) := by
  refine Met.ofW (cc := cX11_fault) (maxL := 1) (ret := (some .int)) (by decide) rfl ?_
  intro p e s m args below meth c s₁ B hml hv
  obtain ⟨rfl, C, hs⟩ := ctx_of B hml hv
  have C : Cx g p s m meth c cX11_fault 1 "Tillhouse" := C
  have hr := B.returns
  have hl := lv_entry ([.ref a0]) (n := 1) (Nat.le_of_ble_eq_true rfl)
  rw [lg_entry_eq]
  generalize (lg_sl ([.ref a0]) ++ List.replicate (1 - (lg_sl ([.ref a0])).length) Slot.unset).toArray = ls at hl ⊢
  have hl : lv_has ls 1 [(0, .ref a0)] := hl
  unfold f_X11_fault at h
  refine lv_aload_n C.1 C.2.1 dX11_fault_0 rfl (lv_at hl 0 rfl) ?_
  replace h := ob h; obtain ⟨p1, ep1, h⟩ := h
  refine sx_getV C hs fo_X11_18 (gR_v ep1) dX11_fault_1 ?_
  replace h := ob h; obtain ⟨⟨⟩, i2, h⟩ := h
  replace h := ob h; obtain ⟨x3, ex3, h⟩ := h
  refine sx_callV (As := []) (rest := []) C hs (c_X9_firstFault ex3) mo_X9_firstFault q283 i2 rfl rfl hl.1 ⟨⟨(Nat.le_of_ble_eq_true rfl), (Nat.le_of_ble_eq_true rfl)⟩, (Nat.le_of_ble_eq_true rfl), (Nat.le_of_ble_eq_true rfl)⟩ rfl (Nat.le_of_ble_eq_true rfl) dX11_fault_4 (fun H locs hs => ?_)
  refine W.eq (g2 := F0 m 7 ls [.int x3]) rfl ?_
  cases h
  exact sx_iret C hs hr rfl dX11_fault_7
def f_X11_read (N : Nat) (σ : Sto) (sz : Nat) (a0 : Nat) (v1 : Int32) : Option ((Nat ⊕ Int32) × Sto × Nat) :=
 (f_X11_checkShelf v1).bind fun u2 =>
 bs u2 (fun j3 => some (.inl j3, σ, sz)) fun x1 =>
 (gR σ a0 10 1).bind fun p4 =>
 (isO σ p4 8).bind fun _ =>
 (f_X9_firstFault N σ p4).bind fun x6 =>
 if x6 = (-1) then
 (gR σ a0 10 1).bind fun p8 =>
 (isO σ p8 8).bind fun _ =>
 b3 (f_X9_value N σ sz p8) fun u13 τ11 y12 =>
 bs u13 (fun j14 => some (.inl j14, τ11, y12)) fun p10 =>
 (gR τ11 a0 10 0).bind fun p15 =>
 (sQ τ11 p15 4 v1 p10).bind fun τ16 =>
 (gR τ16 a0 10 1).bind fun p17 =>
 (isO τ16 p17 8).bind fun _ =>
 b2 (f_X9_empty τ16 p17) fun x19 τ20 =>
 (gI τ20 p10 9 1).bind fun x21 =>
 some (.inr x21, τ20, y12)
 else
 some (.inl 1, σ, sz)
set_option maxHeartbeats 4000000 in
set_option maxRecDepth 100000 in
theorem c_X11_read {l : Launch} (hfl : l.stackTraces = false) {g : PP} {N : Nat} {σ : Sto} {sz : Nat} {a0 : Nat} {v1 : Int32} {r9 : Nat ⊕ Int32} {σ9 : Sto} {sz9 : Nat} (h : f_X11_read N σ sz a0 v1 = some (r9, σ9, sz9)) : vx_Met l yX11_read [Cond.code yX11_read cX11_read 3 (some .int)] (rmk 8 1 6 151) (Pre g σ sz [.ref a0, .int v1]) (PstX g (Sum.map id vI r9) σ9 sz9) (XpX g (Sum.map id vI r9) σ9 sz9) 1 6 (Aw g) := by
  refine vx_ofW (cc := cX11_read) (maxL := 3) (ret := (some .int)) (by decide) rfl ?_
  intro p e s m args below meth c s₁ B hml ht hv
  obtain ⟨rfl, C, hs⟩ := ctx_of B hml hv
  have C : Cx g p s m meth c cX11_read 3 "Tillhouse" := C
  have hr := B.returns
  have hl := lv_entry ([.ref a0, .int v1]) (n := 3) (Nat.le_of_ble_eq_true rfl)
  rw [lg_entry_eq]
  generalize (lg_sl ([.ref a0, .int v1]) ++ List.replicate (3 - (lg_sl ([.ref a0, .int v1])).length) Slot.unset).toArray = ls at hl ⊢
  have hl : lv_has ls 3 [(0, .ref a0), (1, .int v1)] := hl
  unfold f_X11_read at h
  refine lv_iload_n C.1 C.2.1 dX11_read_0 rfl (lv_at hl 1 rfl) ?_
  replace h := ob h; obtain ⟨u2, ex1, h⟩ := h
  rcases u2 with j3 | x1
  · replace h := bsl h
    cases h
    refine sx_xcallS (As := [.int v1]) (rest := []) C hs (c_X11_checkShelf hfl ex1) mo_X11_checkShelf q424 rfl hl.1 ⟨⟨(Nat.le_of_ble_eq_true rfl), (Nat.le_of_ble_eq_true rfl)⟩, (Nat.le_of_ble_eq_true rfl), (Nat.le_of_ble_eq_true rfl)⟩ rfl (Nat.le_of_ble_eq_true rfl) dX11_read_1 (fun k9 hk9 ce q9 H locs a1 a2 a3 a4 a5 a6 => ?_) (fun vr hv => (inlr hv).elim)
    obtain rfl := Sum.inl.inj hk9
    exact sx_out C ht a1 a2 a3 a4 a5 a6 (Nat.le_of_ble_eq_true rfl) (Nat.le_of_ble_eq_true rfl)
  · replace h := bsr h
    refine sx_xcallS (As := [.int v1]) (rest := []) C hs (c_X11_checkShelf hfl ex1) mo_X11_checkShelf q424 rfl hl.1 ⟨⟨(Nat.le_of_ble_eq_true rfl), (Nat.le_of_ble_eq_true rfl)⟩, (Nat.le_of_ble_eq_true rfl), (Nat.le_of_ble_eq_true rfl)⟩ rfl (Nat.le_of_ble_eq_true rfl) dX11_read_1 (fun k9 hk9 => (inrl hk9).elim) (fun vr hv H locs hs => ?_)
    obtain rfl := Sum.inr.inj hv
    refine W.eq (g2 := F0 m 4 ls []) rfl ?_
    refine W.widen (k := 0) (n := 0) (Nat.le_of_ble_eq_true rfl) (Nat.le_of_ble_eq_true rfl) ?_
    refine lv_aload_n C.1 C.2.1 dX11_read_4 rfl (lv_at hl 0 rfl) ?_
    replace h := ob h; obtain ⟨p4, ep4, h⟩ := h
    refine sx_getV C hs fo_X11_18 (gR_v ep4) dX11_read_5 ?_
    replace h := ob h; obtain ⟨⟨⟩, i5, h⟩ := h
    replace h := ob h; obtain ⟨x6, ex6, h⟩ := h
    refine sx_callV (As := []) (rest := []) C hs (c_X9_firstFault ex6) mo_X9_firstFault q283 i5 rfl rfl hl.1 ⟨⟨(Nat.le_of_ble_eq_true rfl), (Nat.le_of_ble_eq_true rfl)⟩, (Nat.le_of_ble_eq_true rfl), (Nat.le_of_ble_eq_true rfl)⟩ rfl (Nat.le_of_ble_eq_true rfl) dX11_read_8 (fun H locs hs => ?_)
    refine W.eq (g2 := F0 m 11 ls [.int x6]) rfl ?_
    refine lv_iconst (v := (-1)) C.1 C.2.1 dX11_read_11 (by decide) ?_
    refine lv_icmp_eq (tgt := 25) C.1 C.2.1 dX11_read_12 (by decide) (fun c7 => ?_) (fun c7 => ?_)
    · replace h := ip c7 h
      refine lv_aload_n C.1 C.2.1 dX11_read_25 rfl (lv_at hl 0 rfl) ?_
      replace h := ob h; obtain ⟨p8, ep8, h⟩ := h
      refine sx_getV C hs fo_X11_18 (gR_v ep8) dX11_read_26 ?_
      replace h := ob h; obtain ⟨⟨⟩, i9, h⟩ := h
      replace h := ob3 h; obtain ⟨u13, τ11, y12, ep10, h⟩ := h
      rcases u13 with j14 | p10
      · replace h := bsl h
        cases h
        refine sx_xcallV (As := []) (rest := []) C hs (c_X9_value hfl ep10) mo_X9_value q545 i9 rfl rfl hl.1 ⟨⟨(Nat.le_of_ble_eq_true rfl), (Nat.le_of_ble_eq_true rfl)⟩, (Nat.le_of_ble_eq_true rfl), (Nat.le_of_ble_eq_true rfl)⟩ rfl (Nat.le_of_ble_eq_true rfl) dX11_read_29 (fun k9 hk9 ce q9 H locs a1 a2 a3 a4 a5 a6 => ?_) (fun vr hv => (inlr hv).elim)
        obtain rfl := Sum.inl.inj hk9
        exact sx_out C ht a1 a2 a3 a4 a5 a6 (Nat.le_of_ble_eq_true rfl) (Nat.le_of_ble_eq_true rfl)
      · replace h := bsr h
        refine sx_xcallV (As := []) (rest := []) C hs (c_X9_value hfl ep10) mo_X9_value q545 i9 rfl rfl hl.1 ⟨⟨(Nat.le_of_ble_eq_true rfl), (Nat.le_of_ble_eq_true rfl)⟩, (Nat.le_of_ble_eq_true rfl), (Nat.le_of_ble_eq_true rfl)⟩ rfl (Nat.le_of_ble_eq_true rfl) dX11_read_29 (fun k9 hk9 => (inrl hk9).elim) (fun vr hv H locs hs => ?_)
        obtain rfl := Sum.inr.inj hv
        refine W.eq (g2 := F0 m 32 ls [.ref p10]) rfl ?_
        refine W.widen (k := 1) (n := 6) (Nat.le_of_ble_eq_true rfl) (Nat.le_of_ble_eq_true rfl) ?_
        refine lv_astore_n (lv' := [(2, .ref p10), (0, .ref a0), (1, .int v1)]) C.1 C.2.1 dX11_read_32 rfl hl (by decide) rfl (fun ls hl => ?_)
        refine lv_aload_n C.1 C.2.1 dX11_read_33 rfl (lv_at hl 1 rfl) ?_
        replace h := ob h; obtain ⟨p15, ep15, h⟩ := h
        refine sx_getV C hs fo_X11_11 (gR_v ep15) dX11_read_34 ?_
        refine lv_iload_n C.1 C.2.1 dX11_read_37 rfl (lv_at hl 2 rfl) ?_
        refine lv_aload_n C.1 C.2.1 dX11_read_38 rfl (lv_at hl 0 rfl) ?_
        replace h := ob h; obtain ⟨τ16, eτ16, h⟩ := h
        refine sx_aast (r := (RX10, TX10, 2)) C hs (by decide) rfl rfl eτ16 dX11_read_39 (fun H locs hs => ?_)
        refine lv_aload_n C.1 C.2.1 dX11_read_40 rfl (lv_at hl 1 rfl) ?_
        replace h := ob h; obtain ⟨p17, ep17, h⟩ := h
        refine sx_getV C hs fo_X11_18 (gR_v ep17) dX11_read_41 ?_
        replace h := ob h; obtain ⟨⟨⟩, i18, h⟩ := h
        replace h := ob2 h; obtain ⟨x19, τ20, ex19, h⟩ := h
        refine sx_callV (As := []) (rest := []) C hs (c_X9_empty ex19) mo_X9_empty q312 i18 rfl rfl hl.1 ⟨⟨(Nat.le_of_ble_eq_true rfl), (Nat.le_of_ble_eq_true rfl)⟩, (Nat.le_of_ble_eq_true rfl), (Nat.le_of_ble_eq_true rfl)⟩ rfl (Nat.le_of_ble_eq_true rfl) dX11_read_44 (fun H locs hs => ?_)
        refine W.eq (g2 := F0 m 47 ls [.int x19]) rfl ?_
        refine lv_pop C.1 C.2.1 dX11_read_47 rfl ?_
        refine lv_aload_n C.1 C.2.1 dX11_read_48 rfl (lv_at hl 0 rfl) ?_
        replace h := ob h; obtain ⟨x21, ex21, h⟩ := h
        refine sx_getV C hs fo_X11_120 (gI_v ex21) dX11_read_49 ?_
        cases h
        exact sx_iretX C hs hr rfl dX11_read_52
    · replace h := iN c7 h
      cases h
      exact sx_throw C hfl hs to_X11_81_111 ht hl.1 dX11_read_15 dX11_read_18 dX11_read_19 dX11_read_21 dX11_read_24 ⟨by decide, (Nat.le_of_ble_eq_true rfl), (Nat.le_of_ble_eq_true rfl), (Nat.le_of_ble_eq_true rfl)⟩ ⟨(Nat.le_of_ble_eq_true rfl), (Nat.le_of_ble_eq_true rfl)⟩
def f_X11_wipe (σ : Sto) (a0 : Nat) : Option (Int32 × Sto) :=
 (gR σ a0 10 1).bind fun p1 =>
 (isO σ p1 8).bind fun _ =>
 b2 (f_X9_empty σ p1) fun x3 τ4 =>
 some (x3, τ4)
set_option maxHeartbeats 4000000 in
set_option maxRecDepth 100000 in
theorem c_X11_wipe {l : Launch} {g : PP} {σ : Sto} {sz : Nat} {a0 : Nat} {r9 : Int32} {σ9 : Sto} (h : f_X11_wipe σ a0 = some (r9, σ9)) : Met l yX11_wipe [Cond.code yX11_wipe cX11_wipe 1 (some .int)] (rmk 1 0 0 21) (Pre g σ sz [.ref a0]) (Pst g (vI r9) σ9 sz) 0 0 (Aw g) := by
  refine Met.ofW (cc := cX11_wipe) (maxL := 1) (ret := (some .int)) (by decide) rfl ?_
  intro p e s m args below meth c s₁ B hml hv
  obtain ⟨rfl, C, hs⟩ := ctx_of B hml hv
  have C : Cx g p s m meth c cX11_wipe 1 "Tillhouse" := C
  have hr := B.returns
  have hl := lv_entry ([.ref a0]) (n := 1) (Nat.le_of_ble_eq_true rfl)
  rw [lg_entry_eq]
  generalize (lg_sl ([.ref a0]) ++ List.replicate (1 - (lg_sl ([.ref a0])).length) Slot.unset).toArray = ls at hl ⊢
  have hl : lv_has ls 1 [(0, .ref a0)] := hl
  unfold f_X11_wipe at h
  refine lv_aload_n C.1 C.2.1 dX11_wipe_0 rfl (lv_at hl 0 rfl) ?_
  replace h := ob h; obtain ⟨p1, ep1, h⟩ := h
  refine sx_getV C hs fo_X11_18 (gR_v ep1) dX11_wipe_1 ?_
  replace h := ob h; obtain ⟨⟨⟩, i2, h⟩ := h
  replace h := ob2 h; obtain ⟨x3, τ4, ex3, h⟩ := h
  refine sx_callV (As := []) (rest := []) C hs (c_X9_empty ex3) mo_X9_empty q312 i2 rfl rfl hl.1 ⟨⟨(Nat.le_of_ble_eq_true rfl), (Nat.le_of_ble_eq_true rfl)⟩, (Nat.le_of_ble_eq_true rfl), (Nat.le_of_ble_eq_true rfl)⟩ rfl (Nat.le_of_ble_eq_true rfl) dX11_wipe_4 (fun H locs hs => ?_)
  refine W.eq (g2 := F0 m 7 ls [.int x3]) rfl ?_
  cases h
  exact sx_iret C hs hr rfl dX11_wipe_7
def f_X11_valueOn (σ : Sto) (a0 : Nat) (v1 : Int32) : Option ((Nat ⊕ Nat)) :=
 (gR σ a0 10 0).bind fun p1 =>
 (aQ σ p1 4 v1).bind fun w2 =>
 oq w2 (
 some (.inl 2))
 (fun p3 =>
 some (.inr p3))
set_option maxHeartbeats 4000000 in
set_option maxRecDepth 100000 in
theorem c_X11_valueOn {l : Launch} (hfl : l.stackTraces = false) {g : PP} {σ : Sto} {sz : Nat} {a0 : Nat} {v1 : Int32} {r9 : Nat ⊕ Nat} (h : f_X11_valueOn σ a0 v1 = some r9) : vx_Met l yX11_valueOn [Cond.code yX11_valueOn cX11_valueOn 3 (some (.object "Tillhouse$Value"))] (rmk 6 (cX r9) (cY r9) 100) (Pre g σ sz [.ref a0, .int v1]) (PstX g (Sum.map id vR r9) σ sz) (XpX g (Sum.map id vR r9) σ sz) (cX r9) (cY r9) (Aw g) := by
  refine vx_ofW (cc := cX11_valueOn) (maxL := 3) (ret := (some (.object "Tillhouse$Value"))) (by decide) rfl ?_
  intro p e s m args below meth c s₁ B hml ht hv
  obtain ⟨rfl, C, hs⟩ := ctx_of B hml hv
  have C : Cx g p s m meth c cX11_valueOn 3 "Tillhouse" := C
  have hr := B.returns
  have hl := lv_entry ([.ref a0, .int v1]) (n := 3) (Nat.le_of_ble_eq_true rfl)
  rw [lg_entry_eq]
  generalize (lg_sl ([.ref a0, .int v1]) ++ List.replicate (3 - (lg_sl ([.ref a0, .int v1])).length) Slot.unset).toArray = ls at hl ⊢
  have hl : lv_has ls 3 [(0, .ref a0), (1, .int v1)] := hl
  unfold f_X11_valueOn at h
  refine lv_aload_n C.1 C.2.1 dX11_valueOn_0 rfl (lv_at hl 0 rfl) ?_
  replace h := ob h; obtain ⟨p1, ep1, h⟩ := h
  refine sx_getV C hs fo_X11_11 (gR_v ep1) dX11_valueOn_1 ?_
  refine lv_iload_n C.1 C.2.1 dX11_valueOn_4 rfl (lv_at hl 1 rfl) ?_
  replace h := ob h; obtain ⟨w2, ew2, h⟩ := h
  refine sx_aald C hs (by decide) rfl ew2 dX11_valueOn_5 ?_
  refine sx_astoreQ_n (lv' := [(2, va_rf w2), (0, .ref a0), (1, .int v1)]) C.1 C.2.1 dX11_valueOn_6 rfl hl (by decide) rfl (fun ls hl => ?_)
  refine sx_aloadQ_n C.1 C.2.1 dX11_valueOn_7 rfl (lv_at hl 0 rfl) ?_
  rcases w2 with _ | p3
  · replace h := oq0 h
    refine lv_ifnonnullN C.1 C.2.1 dX11_valueOn_8 ?_
    cases h
    exact sx_throwN C hfl hs to_X11_210_212 ht hl.1 dX11_valueOn_11 dX11_valueOn_14 dX11_valueOn_15 dX11_valueOn_17 dX11_valueOn_20 ⟨by decide, (Nat.le_of_ble_eq_true rfl), (Nat.le_of_ble_eq_true rfl), (Nat.le_of_ble_eq_true rfl)⟩ ⟨(Nat.le_of_ble_eq_true rfl), (Nat.le_of_ble_eq_true rfl)⟩
  · replace h := oq1 h
    refine lv_ifnonnull (tgt := 21) C.1 C.2.1 dX11_valueOn_8 (by decide) ?_
    refine lv_aload_n C.1 C.2.1 dX11_valueOn_21 rfl (lv_at hl 0 rfl) ?_
    cases h
    exact sx_aretX C hs hr (by first | exact Or.inl ⟨_, rfl⟩ | exact Or.inr ⟨_, rfl⟩) dX11_valueOn_22
def f_X11_unscaled (σ : Sto) (a0 : Nat) (v1 : Int32) : Option ((Nat ⊕ Int64)) :=
 (f_X11_checkShelf v1).bind fun u2 =>
 bs u2 (fun j3 => some (.inl j3)) fun x1 =>
 (isO σ a0 10).bind fun _ =>
 (f_X11_valueOn σ a0 v1).bind fun u6 =>
 bs u6 (fun j7 => some (.inl j7)) fun p5 =>
 (gL σ p5 9 0).bind fun x8 =>
 some (.inr x8)
set_option maxHeartbeats 4000000 in
set_option maxRecDepth 100000 in
theorem c_X11_unscaled {l : Launch} (hfl : l.stackTraces = false) {g : PP} {σ : Sto} {sz : Nat} {a0 : Nat} {v1 : Int32} {r9 : Nat ⊕ Int64} (h : f_X11_unscaled σ a0 v1 = some r9) : vx_Met l yX11_unscaled [Cond.code yX11_unscaled cX11_unscaled 2 (some .long)] (rmk 7 (cX r9) (cY r9) 122) (Pre g σ sz [.ref a0, .int v1]) (PstX g (Sum.map id vL r9) σ sz) (XpX g (Sum.map id vL r9) σ sz) (cX r9) (cY r9) (Aw g) := by
  refine vx_ofW (cc := cX11_unscaled) (maxL := 2) (ret := (some .long)) (by decide) rfl ?_
  intro p e s m args below meth c s₁ B hml ht hv
  obtain ⟨rfl, C, hs⟩ := ctx_of B hml hv
  have C : Cx g p s m meth c cX11_unscaled 2 "Tillhouse" := C
  have hr := B.returns
  have hl := lv_entry ([.ref a0, .int v1]) (n := 2) (Nat.le_of_ble_eq_true rfl)
  rw [lg_entry_eq]
  generalize (lg_sl ([.ref a0, .int v1]) ++ List.replicate (2 - (lg_sl ([.ref a0, .int v1])).length) Slot.unset).toArray = ls at hl ⊢
  have hl : lv_has ls 2 [(0, .ref a0), (1, .int v1)] := hl
  unfold f_X11_unscaled at h
  refine lv_iload_n C.1 C.2.1 dX11_unscaled_0 rfl (lv_at hl 1 rfl) ?_
  replace h := ob h; obtain ⟨u2, ex1, h⟩ := h
  rcases u2 with j3 | x1
  · replace h := bsl h
    cases h
    refine sx_xcallS (As := [.int v1]) (rest := []) C hs (c_X11_checkShelf hfl ex1) mo_X11_checkShelf q424 rfl hl.1 ⟨⟨(Nat.le_of_ble_eq_true rfl), (Nat.le_of_ble_eq_true rfl)⟩, (Nat.le_of_ble_eq_true rfl), (Nat.le_of_ble_eq_true rfl)⟩ rfl (Nat.le_of_ble_eq_true rfl) dX11_unscaled_1 (fun k9 hk9 ce q9 H locs a1 a2 a3 a4 a5 a6 => ?_) (fun vr hv => (inlr hv).elim)
    obtain rfl := Sum.inl.inj hk9
    exact sx_out C ht a1 a2 a3 a4 a5 a6 (Nat.le_of_ble_eq_true rfl) (Nat.le_of_ble_eq_true rfl)
  · replace h := bsr h
    refine sx_xcallS (As := [.int v1]) (rest := []) C hs (c_X11_checkShelf hfl ex1) mo_X11_checkShelf q424 rfl hl.1 ⟨⟨(Nat.le_of_ble_eq_true rfl), (Nat.le_of_ble_eq_true rfl)⟩, (Nat.le_of_ble_eq_true rfl), (Nat.le_of_ble_eq_true rfl)⟩ rfl (Nat.le_of_ble_eq_true rfl) dX11_unscaled_1 (fun k9 hk9 => (inrl hk9).elim) (fun vr hv H locs hs => ?_)
    obtain rfl := Sum.inr.inj hv
    refine W.eq (g2 := F0 m 4 ls []) rfl ?_
    refine W.widen (k := 0) (n := 0) (Nat.le_of_ble_eq_true rfl) (Nat.le_of_ble_eq_true rfl) ?_
    refine lv_aload_n C.1 C.2.1 dX11_unscaled_4 rfl (lv_at hl 0 rfl) ?_
    refine lv_iload_n C.1 C.2.1 dX11_unscaled_5 rfl (lv_at hl 1 rfl) ?_
    replace h := ob h; obtain ⟨⟨⟩, i4, h⟩ := h
    replace h := ob h; obtain ⟨u6, ep5, h⟩ := h
    rcases u6 with j7 | p5
    · replace h := bsl h
      cases h
      refine sx_xcallV (As := [.int v1]) (rest := []) C hs (c_X11_valueOn hfl ep5) mo_X11_valueOn q574 i4 rfl rfl hl.1 ⟨⟨(Nat.le_of_ble_eq_true rfl), (Nat.le_of_ble_eq_true rfl)⟩, (Nat.le_of_ble_eq_true rfl), (Nat.le_of_ble_eq_true rfl)⟩ rfl (Nat.le_of_ble_eq_true rfl) dX11_unscaled_6 (fun k9 hk9 ce q9 H locs a1 a2 a3 a4 a5 a6 => ?_) (fun vr hv => (inlr hv).elim)
      obtain rfl := Sum.inl.inj hk9
      exact sx_out C ht a1 a2 a3 a4 a5 a6 (Nat.le_of_ble_eq_true rfl) (Nat.le_of_ble_eq_true rfl)
    · replace h := bsr h
      refine sx_xcallV (As := [.int v1]) (rest := []) C hs (c_X11_valueOn hfl ep5) mo_X11_valueOn q574 i4 rfl rfl hl.1 ⟨⟨(Nat.le_of_ble_eq_true rfl), (Nat.le_of_ble_eq_true rfl)⟩, (Nat.le_of_ble_eq_true rfl), (Nat.le_of_ble_eq_true rfl)⟩ rfl (Nat.le_of_ble_eq_true rfl) dX11_unscaled_6 (fun k9 hk9 => (inrl hk9).elim) (fun vr hv H locs hs => ?_)
      obtain rfl := Sum.inr.inj hv
      refine W.eq (g2 := F0 m 9 ls [.ref p5]) rfl ?_
      refine W.widen (k := 0) (n := 0) (Nat.le_of_ble_eq_true rfl) (Nat.le_of_ble_eq_true rfl) ?_
      replace h := ob h; obtain ⟨x8, ex8, h⟩ := h
      refine sx_getV C hs fo_X11_127 (gL_v ex8) dX11_unscaled_9 ?_
      cases h
      exact sx_lretX C hs hr dX11_unscaled_12
def f_X11_scale (σ : Sto) (a0 : Nat) (v1 : Int32) : Option ((Nat ⊕ Int32)) :=
 (f_X11_checkShelf v1).bind fun u2 =>
 bs u2 (fun j3 => some (.inl j3)) fun x1 =>
 (isO σ a0 10).bind fun _ =>
 (f_X11_valueOn σ a0 v1).bind fun u6 =>
 bs u6 (fun j7 => some (.inl j7)) fun p5 =>
 (gI σ p5 9 1).bind fun x8 =>
 some (.inr x8)
set_option maxHeartbeats 4000000 in
set_option maxRecDepth 100000 in
theorem c_X11_scale {l : Launch} (hfl : l.stackTraces = false) {g : PP} {σ : Sto} {sz : Nat} {a0 : Nat} {v1 : Int32} {r9 : Nat ⊕ Int32} (h : f_X11_scale σ a0 v1 = some r9) : vx_Met l yX11_scale [Cond.code yX11_scale cX11_scale 2 (some .int)] (rmk 7 (cX r9) (cY r9) 122) (Pre g σ sz [.ref a0, .int v1]) (PstX g (Sum.map id vI r9) σ sz) (XpX g (Sum.map id vI r9) σ sz) (cX r9) (cY r9) (Aw g) := by
  refine vx_ofW (cc := cX11_scale) (maxL := 2) (ret := (some .int)) (by decide) rfl ?_
  intro p e s m args below meth c s₁ B hml ht hv
  obtain ⟨rfl, C, hs⟩ := ctx_of B hml hv
  have C : Cx g p s m meth c cX11_scale 2 "Tillhouse" := C
  have hr := B.returns
  have hl := lv_entry ([.ref a0, .int v1]) (n := 2) (Nat.le_of_ble_eq_true rfl)
  rw [lg_entry_eq]
  generalize (lg_sl ([.ref a0, .int v1]) ++ List.replicate (2 - (lg_sl ([.ref a0, .int v1])).length) Slot.unset).toArray = ls at hl ⊢
  have hl : lv_has ls 2 [(0, .ref a0), (1, .int v1)] := hl
  unfold f_X11_scale at h
  refine lv_iload_n C.1 C.2.1 dX11_scale_0 rfl (lv_at hl 1 rfl) ?_
  replace h := ob h; obtain ⟨u2, ex1, h⟩ := h
  rcases u2 with j3 | x1
  · replace h := bsl h
    cases h
    refine sx_xcallS (As := [.int v1]) (rest := []) C hs (c_X11_checkShelf hfl ex1) mo_X11_checkShelf q424 rfl hl.1 ⟨⟨(Nat.le_of_ble_eq_true rfl), (Nat.le_of_ble_eq_true rfl)⟩, (Nat.le_of_ble_eq_true rfl), (Nat.le_of_ble_eq_true rfl)⟩ rfl (Nat.le_of_ble_eq_true rfl) dX11_scale_1 (fun k9 hk9 ce q9 H locs a1 a2 a3 a4 a5 a6 => ?_) (fun vr hv => (inlr hv).elim)
    obtain rfl := Sum.inl.inj hk9
    exact sx_out C ht a1 a2 a3 a4 a5 a6 (Nat.le_of_ble_eq_true rfl) (Nat.le_of_ble_eq_true rfl)
  · replace h := bsr h
    refine sx_xcallS (As := [.int v1]) (rest := []) C hs (c_X11_checkShelf hfl ex1) mo_X11_checkShelf q424 rfl hl.1 ⟨⟨(Nat.le_of_ble_eq_true rfl), (Nat.le_of_ble_eq_true rfl)⟩, (Nat.le_of_ble_eq_true rfl), (Nat.le_of_ble_eq_true rfl)⟩ rfl (Nat.le_of_ble_eq_true rfl) dX11_scale_1 (fun k9 hk9 => (inrl hk9).elim) (fun vr hv H locs hs => ?_)
    obtain rfl := Sum.inr.inj hv
    refine W.eq (g2 := F0 m 4 ls []) rfl ?_
    refine W.widen (k := 0) (n := 0) (Nat.le_of_ble_eq_true rfl) (Nat.le_of_ble_eq_true rfl) ?_
    refine lv_aload_n C.1 C.2.1 dX11_scale_4 rfl (lv_at hl 0 rfl) ?_
    refine lv_iload_n C.1 C.2.1 dX11_scale_5 rfl (lv_at hl 1 rfl) ?_
    replace h := ob h; obtain ⟨⟨⟩, i4, h⟩ := h
    replace h := ob h; obtain ⟨u6, ep5, h⟩ := h
    rcases u6 with j7 | p5
    · replace h := bsl h
      cases h
      refine sx_xcallV (As := [.int v1]) (rest := []) C hs (c_X11_valueOn hfl ep5) mo_X11_valueOn q574 i4 rfl rfl hl.1 ⟨⟨(Nat.le_of_ble_eq_true rfl), (Nat.le_of_ble_eq_true rfl)⟩, (Nat.le_of_ble_eq_true rfl), (Nat.le_of_ble_eq_true rfl)⟩ rfl (Nat.le_of_ble_eq_true rfl) dX11_scale_6 (fun k9 hk9 ce q9 H locs a1 a2 a3 a4 a5 a6 => ?_) (fun vr hv => (inlr hv).elim)
      obtain rfl := Sum.inl.inj hk9
      exact sx_out C ht a1 a2 a3 a4 a5 a6 (Nat.le_of_ble_eq_true rfl) (Nat.le_of_ble_eq_true rfl)
    · replace h := bsr h
      refine sx_xcallV (As := [.int v1]) (rest := []) C hs (c_X11_valueOn hfl ep5) mo_X11_valueOn q574 i4 rfl rfl hl.1 ⟨⟨(Nat.le_of_ble_eq_true rfl), (Nat.le_of_ble_eq_true rfl)⟩, (Nat.le_of_ble_eq_true rfl), (Nat.le_of_ble_eq_true rfl)⟩ rfl (Nat.le_of_ble_eq_true rfl) dX11_scale_6 (fun k9 hk9 => (inrl hk9).elim) (fun vr hv H locs hs => ?_)
      obtain rfl := Sum.inr.inj hv
      refine W.eq (g2 := F0 m 9 ls [.ref p5]) rfl ?_
      refine W.widen (k := 0) (n := 0) (Nat.le_of_ble_eq_true rfl) (Nat.le_of_ble_eq_true rfl) ?_
      replace h := ob h; obtain ⟨x8, ex8, h⟩ := h
      refine sx_getV C hs fo_X11_120 (gI_v ex8) dX11_scale_9 ?_
      cases h
      exact sx_iretX C hs hr rfl dX11_scale_12
def f_X11_precision (N : Nat) (σ : Sto) (a0 : Nat) (v1 : Int32) : Option ((Nat ⊕ Int32)) :=
 (f_X11_checkShelf v1).bind fun u2 =>
 bs u2 (fun j3 => some (.inl j3)) fun x1 =>
 (isO σ a0 10).bind fun _ =>
 (f_X11_valueOn σ a0 v1).bind fun u6 =>
 bs u6 (fun j7 => some (.inl j7)) fun p5 =>
 (isO σ p5 9).bind fun _ =>
 (f_X10_sign σ p5).bind fun x9 =>
 (f_X10_digits N σ p5).bind fun x10 =>
 some (.inr (x9 * x10))
set_option maxHeartbeats 4000000 in
set_option maxRecDepth 100000 in
theorem c_X11_precision {l : Launch} (hfl : l.stackTraces = false) {g : PP} {N : Nat} {σ : Sto} {sz : Nat} {a0 : Nat} {v1 : Int32} {r9 : Nat ⊕ Int32} (h : f_X11_precision N σ a0 v1 = some r9) : vx_Met l yX11_precision [Cond.code yX11_precision cX11_precision 3 (some .int)] (rmk 7 (cX r9) (cY r9) 122) (Pre g σ sz [.ref a0, .int v1]) (PstX g (Sum.map id vI r9) σ sz) (XpX g (Sum.map id vI r9) σ sz) (cX r9) (cY r9) (Aw g) := by
  refine vx_ofW (cc := cX11_precision) (maxL := 3) (ret := (some .int)) (by decide) rfl ?_
  intro p e s m args below meth c s₁ B hml ht hv
  obtain ⟨rfl, C, hs⟩ := ctx_of B hml hv
  have C : Cx g p s m meth c cX11_precision 3 "Tillhouse" := C
  have hr := B.returns
  have hl := lv_entry ([.ref a0, .int v1]) (n := 3) (Nat.le_of_ble_eq_true rfl)
  rw [lg_entry_eq]
  generalize (lg_sl ([.ref a0, .int v1]) ++ List.replicate (3 - (lg_sl ([.ref a0, .int v1])).length) Slot.unset).toArray = ls at hl ⊢
  have hl : lv_has ls 3 [(0, .ref a0), (1, .int v1)] := hl
  unfold f_X11_precision at h
  refine lv_iload_n C.1 C.2.1 dX11_precision_0 rfl (lv_at hl 1 rfl) ?_
  replace h := ob h; obtain ⟨u2, ex1, h⟩ := h
  rcases u2 with j3 | x1
  · replace h := bsl h
    cases h
    refine sx_xcallS (As := [.int v1]) (rest := []) C hs (c_X11_checkShelf hfl ex1) mo_X11_checkShelf q424 rfl hl.1 ⟨⟨(Nat.le_of_ble_eq_true rfl), (Nat.le_of_ble_eq_true rfl)⟩, (Nat.le_of_ble_eq_true rfl), (Nat.le_of_ble_eq_true rfl)⟩ rfl (Nat.le_of_ble_eq_true rfl) dX11_precision_1 (fun k9 hk9 ce q9 H locs a1 a2 a3 a4 a5 a6 => ?_) (fun vr hv => (inlr hv).elim)
    obtain rfl := Sum.inl.inj hk9
    exact sx_out C ht a1 a2 a3 a4 a5 a6 (Nat.le_of_ble_eq_true rfl) (Nat.le_of_ble_eq_true rfl)
  · replace h := bsr h
    refine sx_xcallS (As := [.int v1]) (rest := []) C hs (c_X11_checkShelf hfl ex1) mo_X11_checkShelf q424 rfl hl.1 ⟨⟨(Nat.le_of_ble_eq_true rfl), (Nat.le_of_ble_eq_true rfl)⟩, (Nat.le_of_ble_eq_true rfl), (Nat.le_of_ble_eq_true rfl)⟩ rfl (Nat.le_of_ble_eq_true rfl) dX11_precision_1 (fun k9 hk9 => (inrl hk9).elim) (fun vr hv H locs hs => ?_)
    obtain rfl := Sum.inr.inj hv
    refine W.eq (g2 := F0 m 4 ls []) rfl ?_
    refine W.widen (k := 0) (n := 0) (Nat.le_of_ble_eq_true rfl) (Nat.le_of_ble_eq_true rfl) ?_
    refine lv_aload_n C.1 C.2.1 dX11_precision_4 rfl (lv_at hl 0 rfl) ?_
    refine lv_iload_n C.1 C.2.1 dX11_precision_5 rfl (lv_at hl 1 rfl) ?_
    replace h := ob h; obtain ⟨⟨⟩, i4, h⟩ := h
    replace h := ob h; obtain ⟨u6, ep5, h⟩ := h
    rcases u6 with j7 | p5
    · replace h := bsl h
      cases h
      refine sx_xcallV (As := [.int v1]) (rest := []) C hs (c_X11_valueOn hfl ep5) mo_X11_valueOn q574 i4 rfl rfl hl.1 ⟨⟨(Nat.le_of_ble_eq_true rfl), (Nat.le_of_ble_eq_true rfl)⟩, (Nat.le_of_ble_eq_true rfl), (Nat.le_of_ble_eq_true rfl)⟩ rfl (Nat.le_of_ble_eq_true rfl) dX11_precision_6 (fun k9 hk9 ce q9 H locs a1 a2 a3 a4 a5 a6 => ?_) (fun vr hv => (inlr hv).elim)
      obtain rfl := Sum.inl.inj hk9
      exact sx_out C ht a1 a2 a3 a4 a5 a6 (Nat.le_of_ble_eq_true rfl) (Nat.le_of_ble_eq_true rfl)
    · replace h := bsr h
      refine sx_xcallV (As := [.int v1]) (rest := []) C hs (c_X11_valueOn hfl ep5) mo_X11_valueOn q574 i4 rfl rfl hl.1 ⟨⟨(Nat.le_of_ble_eq_true rfl), (Nat.le_of_ble_eq_true rfl)⟩, (Nat.le_of_ble_eq_true rfl), (Nat.le_of_ble_eq_true rfl)⟩ rfl (Nat.le_of_ble_eq_true rfl) dX11_precision_6 (fun k9 hk9 => (inrl hk9).elim) (fun vr hv H locs hs => ?_)
      obtain rfl := Sum.inr.inj hv
      refine W.eq (g2 := F0 m 9 ls [.ref p5]) rfl ?_
      refine W.widen (k := 0) (n := 0) (Nat.le_of_ble_eq_true rfl) (Nat.le_of_ble_eq_true rfl) ?_
      refine lv_astore_n (lv' := [(2, .ref p5), (0, .ref a0), (1, .int v1)]) C.1 C.2.1 dX11_precision_9 rfl hl (by decide) rfl (fun ls hl => ?_)
      refine lv_aload_n C.1 C.2.1 dX11_precision_10 rfl (lv_at hl 0 rfl) ?_
      replace h := ob h; obtain ⟨⟨⟩, i8, h⟩ := h
      replace h := ob h; obtain ⟨x9, ex9, h⟩ := h
      refine sx_callV (As := []) (rest := []) C hs (c_X10_sign ex9) mo_X10_sign q608 i8 rfl rfl hl.1 ⟨⟨(Nat.le_of_ble_eq_true rfl), (Nat.le_of_ble_eq_true rfl)⟩, (Nat.le_of_ble_eq_true rfl), (Nat.le_of_ble_eq_true rfl)⟩ rfl (Nat.le_of_ble_eq_true rfl) dX11_precision_11 (fun H locs hs => ?_)
      refine W.eq (g2 := F0 m 14 ls [.int x9]) rfl ?_
      refine lv_aload_n C.1 C.2.1 dX11_precision_14 rfl (lv_at hl 0 rfl) ?_
      replace h := ob h; obtain ⟨x10, ex10, h⟩ := h
      refine sx_callV (As := []) (rest := [.int x9]) C hs (c_X10_digits ex10) mo_X10_digits q475 i8 rfl rfl hl.1 ⟨⟨(Nat.le_of_ble_eq_true rfl), (Nat.le_of_ble_eq_true rfl)⟩, (Nat.le_of_ble_eq_true rfl), (Nat.le_of_ble_eq_true rfl)⟩ rfl (Nat.le_of_ble_eq_true rfl) dX11_precision_15 (fun H locs hs => ?_)
      refine W.eq (g2 := F0 m 18 ls [.int x10, .int x9]) rfl ?_
      refine lv_imul C.1 C.2.1 dX11_precision_18 ?_
      cases h
      exact sx_iretX C hs hr rfl dX11_precision_19
def f_X11_joined (N : Nat) (σ : Sto) (sz : Nat) (a0 : Nat) (a1 : Nat) (v2 : Int32) : Option ((Nat ⊕ Nat) × Sto × Nat) :=
 if v2 = 42 then
 (isO σ a0 9).bind fun _ =>
 b3 (f_X10_times σ sz a0 a1) fun u6 τ4 y5 =>
 bs u6 (fun j7 => some (.inl j7, τ4, y5)) fun p3 =>
 some (.inr p3, τ4, y5)
 else
 if v2 = 43 then
 (isO σ a0 9).bind fun _ =>
 b3 (f_X10_plus σ sz a0 a1) fun u13 τ11 y12 =>
 bs u13 (fun j14 => some (.inl j14, τ11, y12)) fun p10 =>
 some (.inr p10, τ11, y12)
 else
 if v2 = 45 then
 (isO σ a0 9).bind fun _ =>
 b3 (f_X10_minus σ sz a0 a1) fun u20 τ18 y19 =>
 bs u20 (fun j21 => some (.inl j21, τ18, y19)) fun p17 =>
 some (.inr p17, τ18, y19)
 else
 if v2 = 103 then
 (isO σ a0 9).bind fun _ =>
 (f_X10_order N σ a0 a1).bind fun u25 =>
 bs u25 (fun j26 => some (.inl j26, σ, sz)) fun x24 =>
 if x24 < 0 then
 some (.inr a1, σ, sz)
 else
 some (.inr a0, σ, sz)
 else
 (isO σ a0 9).bind fun _ =>
 (f_X10_order N σ a0 a1).bind fun u30 =>
 bs u30 (fun j31 => some (.inl j31, σ, sz)) fun x29 =>
 if 0 < x29 then
 some (.inr a1, σ, sz)
 else
 some (.inr a0, σ, sz)
set_option maxHeartbeats 4000000 in
set_option maxRecDepth 100000 in
theorem c_X11_joined {l : Launch} (hfl : l.stackTraces = false) {g : PP} {N : Nat} {σ : Sto} {sz : Nat} {a0 : Nat} {a1 : Nat} {v2 : Int32} {r9 : Nat ⊕ Nat} {σ9 : Sto} {sz9 : Nat} (h : f_X11_joined N σ sz a0 a1 v2 = some (r9, σ9, sz9)) : vx_Met l yX11_joined [Cond.code yX11_joined cX11_joined 3 (some (.object "Tillhouse$Value"))] (rmk 10 1 6 196) (Pre g σ sz [.ref a0, .ref a1, .int v2]) (PstX g (Sum.map id vR r9) σ9 sz9) (XpX g (Sum.map id vR r9) σ9 sz9) 1 6 (Aw g) := by
  refine vx_ofW (cc := cX11_joined) (maxL := 3) (ret := (some (.object "Tillhouse$Value"))) (by decide) rfl ?_
  intro p e s m args below meth c s₁ B hml ht hv
  obtain ⟨rfl, C, hs⟩ := ctx_of B hml hv
  have C : Cx g p s m meth c cX11_joined 3 "Tillhouse" := C
  have hr := B.returns
  have hl := lv_entry ([.ref a0, .ref a1, .int v2]) (n := 3) (Nat.le_of_ble_eq_true rfl)
  rw [lg_entry_eq]
  generalize (lg_sl ([.ref a0, .ref a1, .int v2]) ++ List.replicate (3 - (lg_sl ([.ref a0, .ref a1, .int v2])).length) Slot.unset).toArray = ls at hl ⊢
  have hl : lv_has ls 3 [(0, .ref a0), (1, .ref a1), (2, .int v2)] := hl
  unfold f_X11_joined at h
  refine lv_iload_n C.1 C.2.1 dX11_joined_0 rfl (lv_at hl 2 rfl) ?_
  rcases Decidable.em (v2 = 42) with c1 | c1
  · replace h := ip c1 h
    refine sx_lkp (tgt := 56) (off := 55) C dX11_joined_1 (by decide) (by rw [c1]; decide) (by decide) ?_
    refine lv_aload_n C.1 C.2.1 dX11_joined_56 rfl (lv_at hl 0 rfl) ?_
    refine lv_aload_n C.1 C.2.1 dX11_joined_57 rfl (lv_at hl 1 rfl) ?_
    replace h := ob h; obtain ⟨⟨⟩, i2, h⟩ := h
    replace h := ob3 h; obtain ⟨u6, τ4, y5, ep3, h⟩ := h
    rcases u6 with j7 | p3
    · replace h := bsl h
      cases h
      refine sx_xcallV (As := [.ref a1]) (rest := []) C hs (c_X10_times hfl ep3) mo_X10_times q647 i2 rfl rfl hl.1 ⟨⟨(Nat.le_of_ble_eq_true rfl), (Nat.le_of_ble_eq_true rfl)⟩, (Nat.le_of_ble_eq_true rfl), (Nat.le_of_ble_eq_true rfl)⟩ rfl (Nat.le_of_ble_eq_true rfl) dX11_joined_58 (fun k9 hk9 ce q9 H locs a1 a2 a3 a4 a5 a6 => ?_) (fun vr hv => (inlr hv).elim)
      obtain rfl := Sum.inl.inj hk9
      exact sx_out C ht a1 a2 a3 a4 a5 a6 (Nat.le_of_ble_eq_true rfl) (Nat.le_of_ble_eq_true rfl)
    · replace h := bsr h
      refine sx_xcallV (As := [.ref a1]) (rest := []) C hs (c_X10_times hfl ep3) mo_X10_times q647 i2 rfl rfl hl.1 ⟨⟨(Nat.le_of_ble_eq_true rfl), (Nat.le_of_ble_eq_true rfl)⟩, (Nat.le_of_ble_eq_true rfl), (Nat.le_of_ble_eq_true rfl)⟩ rfl (Nat.le_of_ble_eq_true rfl) dX11_joined_58 (fun k9 hk9 => (inrl hk9).elim) (fun vr hv H locs hs => ?_)
      obtain rfl := Sum.inr.inj hv
      refine W.eq (g2 := F0 m 61 ls [.ref p3]) rfl ?_
      refine W.widen (k := 1) (n := 6) (Nat.le_of_ble_eq_true rfl) (Nat.le_of_ble_eq_true rfl) ?_
      cases h
      exact sx_aretX C hs hr (by first | exact Or.inl ⟨_, rfl⟩ | exact Or.inr ⟨_, rfl⟩) dX11_joined_61
  · replace h := iN c1 h
    rcases Decidable.em (v2 = 43) with c8 | c8
    · replace h := ip c8 h
      refine sx_lkp (tgt := 44) (off := 43) C dX11_joined_1 (by decide) (by rw [c8]; decide) (by decide) ?_
      refine lv_aload_n C.1 C.2.1 dX11_joined_44 rfl (lv_at hl 0 rfl) ?_
      refine lv_aload_n C.1 C.2.1 dX11_joined_45 rfl (lv_at hl 1 rfl) ?_
      replace h := ob h; obtain ⟨⟨⟩, i9, h⟩ := h
      replace h := ob3 h; obtain ⟨u13, τ11, y12, ep10, h⟩ := h
      rcases u13 with j14 | p10
      · replace h := bsl h
        cases h
        refine sx_xcallV (As := [.ref a1]) (rest := []) C hs (c_X10_plus hfl ep10) mo_X10_plus q623 i9 rfl rfl hl.1 ⟨⟨(Nat.le_of_ble_eq_true rfl), (Nat.le_of_ble_eq_true rfl)⟩, (Nat.le_of_ble_eq_true rfl), (Nat.le_of_ble_eq_true rfl)⟩ rfl (Nat.le_of_ble_eq_true rfl) dX11_joined_46 (fun k9 hk9 ce q9 H locs a1 a2 a3 a4 a5 a6 => ?_) (fun vr hv => (inlr hv).elim)
        obtain rfl := Sum.inl.inj hk9
        exact sx_out C ht a1 a2 a3 a4 a5 a6 (Nat.le_of_ble_eq_true rfl) (Nat.le_of_ble_eq_true rfl)
      · replace h := bsr h
        refine sx_xcallV (As := [.ref a1]) (rest := []) C hs (c_X10_plus hfl ep10) mo_X10_plus q623 i9 rfl rfl hl.1 ⟨⟨(Nat.le_of_ble_eq_true rfl), (Nat.le_of_ble_eq_true rfl)⟩, (Nat.le_of_ble_eq_true rfl), (Nat.le_of_ble_eq_true rfl)⟩ rfl (Nat.le_of_ble_eq_true rfl) dX11_joined_46 (fun k9 hk9 => (inrl hk9).elim) (fun vr hv H locs hs => ?_)
        obtain rfl := Sum.inr.inj hv
        refine W.eq (g2 := F0 m 49 ls [.ref p10]) rfl ?_
        refine W.widen (k := 1) (n := 6) (Nat.le_of_ble_eq_true rfl) (Nat.le_of_ble_eq_true rfl) ?_
        cases h
        exact sx_aretX C hs hr (by first | exact Or.inl ⟨_, rfl⟩ | exact Or.inr ⟨_, rfl⟩) dX11_joined_49
    · replace h := iN c8 h
      rcases Decidable.em (v2 = 45) with c15 | c15
      · replace h := ip c15 h
        refine sx_lkp (tgt := 50) (off := 49) C dX11_joined_1 (by decide) (by rw [c15]; decide) (by decide) ?_
        refine lv_aload_n C.1 C.2.1 dX11_joined_50 rfl (lv_at hl 0 rfl) ?_
        refine lv_aload_n C.1 C.2.1 dX11_joined_51 rfl (lv_at hl 1 rfl) ?_
        replace h := ob h; obtain ⟨⟨⟩, i16, h⟩ := h
        replace h := ob3 h; obtain ⟨u20, τ18, y19, ep17, h⟩ := h
        rcases u20 with j21 | p17
        · replace h := bsl h
          cases h
          refine sx_xcallV (As := [.ref a1]) (rest := []) C hs (c_X10_minus hfl ep17) mo_X10_minus q643 i16 rfl rfl hl.1 ⟨⟨(Nat.le_of_ble_eq_true rfl), (Nat.le_of_ble_eq_true rfl)⟩, (Nat.le_of_ble_eq_true rfl), (Nat.le_of_ble_eq_true rfl)⟩ rfl (Nat.le_of_ble_eq_true rfl) dX11_joined_52 (fun k9 hk9 ce q9 H locs a1 a2 a3 a4 a5 a6 => ?_) (fun vr hv => (inlr hv).elim)
          obtain rfl := Sum.inl.inj hk9
          exact sx_out C ht a1 a2 a3 a4 a5 a6 (Nat.le_of_ble_eq_true rfl) (Nat.le_of_ble_eq_true rfl)
        · replace h := bsr h
          refine sx_xcallV (As := [.ref a1]) (rest := []) C hs (c_X10_minus hfl ep17) mo_X10_minus q643 i16 rfl rfl hl.1 ⟨⟨(Nat.le_of_ble_eq_true rfl), (Nat.le_of_ble_eq_true rfl)⟩, (Nat.le_of_ble_eq_true rfl), (Nat.le_of_ble_eq_true rfl)⟩ rfl (Nat.le_of_ble_eq_true rfl) dX11_joined_52 (fun k9 hk9 => (inrl hk9).elim) (fun vr hv H locs hs => ?_)
          obtain rfl := Sum.inr.inj hv
          refine W.eq (g2 := F0 m 55 ls [.ref p17]) rfl ?_
          refine W.widen (k := 1) (n := 6) (Nat.le_of_ble_eq_true rfl) (Nat.le_of_ble_eq_true rfl) ?_
          cases h
          exact sx_aretX C hs hr (by first | exact Or.inl ⟨_, rfl⟩ | exact Or.inr ⟨_, rfl⟩) dX11_joined_55
      · replace h := iN c15 h
        rcases Decidable.em (v2 = 103) with c22 | c22
        · replace h := ip c22 h
          refine sx_lkp (tgt := 62) (off := 61) C dX11_joined_1 (by decide) (by rw [c22]; decide) (by decide) ?_
          refine lv_aload_n C.1 C.2.1 dX11_joined_62 rfl (lv_at hl 0 rfl) ?_
          refine lv_aload_n C.1 C.2.1 dX11_joined_63 rfl (lv_at hl 1 rfl) ?_
          replace h := ob h; obtain ⟨⟨⟩, i23, h⟩ := h
          replace h := ob h; obtain ⟨u25, ex24, h⟩ := h
          rcases u25 with j26 | x24
          · replace h := bsl h
            cases h
            refine sx_xcallV (As := [.ref a1]) (rest := []) C hs (c_X10_order hfl ex24) mo_X10_order q652 i23 rfl rfl hl.1 ⟨⟨(Nat.le_of_ble_eq_true rfl), (Nat.le_of_ble_eq_true rfl)⟩, (Nat.le_of_ble_eq_true rfl), (Nat.le_of_ble_eq_true rfl)⟩ rfl (Nat.le_of_ble_eq_true rfl) dX11_joined_64 (fun k9 hk9 ce q9 H locs a1 a2 a3 a4 a5 a6 => ?_) (fun vr hv => (inlr hv).elim)
            obtain rfl := Sum.inl.inj hk9
            exact sx_out C ht a1 a2 a3 a4 a5 a6 (Nat.le_of_ble_eq_true rfl) (Nat.le_of_ble_eq_true rfl)
          · replace h := bsr h
            refine sx_xcallV (As := [.ref a1]) (rest := []) C hs (c_X10_order hfl ex24) mo_X10_order q652 i23 rfl rfl hl.1 ⟨⟨(Nat.le_of_ble_eq_true rfl), (Nat.le_of_ble_eq_true rfl)⟩, (Nat.le_of_ble_eq_true rfl), (Nat.le_of_ble_eq_true rfl)⟩ rfl (Nat.le_of_ble_eq_true rfl) dX11_joined_64 (fun k9 hk9 => (inrl hk9).elim) (fun vr hv H locs hs => ?_)
            obtain rfl := Sum.inr.inj hv
            refine W.eq (g2 := F0 m 67 ls [.int x24]) rfl ?_
            refine W.widen (k := 0) (n := 0) (Nat.le_of_ble_eq_true rfl) (Nat.le_of_ble_eq_true rfl) ?_
            refine lv_if_lt (tgt := 74) C.1 C.2.1 dX11_joined_67 (by decide) (fun c27 => ?_) (fun c27 => ?_)
            · replace h := ip c27 h
              refine lv_aload_n C.1 C.2.1 dX11_joined_74 rfl (lv_at hl 1 rfl) ?_
              cases h
              refine W.widen (k := 1) (n := 6) (Nat.le_of_ble_eq_true rfl) (Nat.le_of_ble_eq_true rfl) ?_
              exact sx_aretX C hs hr (by first | exact Or.inl ⟨_, rfl⟩ | exact Or.inr ⟨_, rfl⟩) dX11_joined_75
            · replace h := iN c27 h
              refine lv_aload_n C.1 C.2.1 dX11_joined_70 rfl (lv_at hl 0 rfl) ?_
              refine lv_goto (tgt := 75) C.1 C.2.1 dX11_joined_71 (by decide) ?_
              cases h
              refine W.widen (k := 1) (n := 6) (Nat.le_of_ble_eq_true rfl) (Nat.le_of_ble_eq_true rfl) ?_
              exact sx_aretX C hs hr (by first | exact Or.inl ⟨_, rfl⟩ | exact Or.inr ⟨_, rfl⟩) dX11_joined_75
        · replace h := iN c22 h
          refine sx_lkp (tgt := 76) (off := 75) C dX11_joined_1 (by decide) ((lv_osw c1 (by decide)).trans ((lv_osw c8 (by decide)).trans ((lv_osw c15 (by decide)).trans ((lv_osw c22 (by decide)).trans rfl)))) (by decide) ?_
          refine lv_aload_n C.1 C.2.1 dX11_joined_76 rfl (lv_at hl 0 rfl) ?_
          refine lv_aload_n C.1 C.2.1 dX11_joined_77 rfl (lv_at hl 1 rfl) ?_
          replace h := ob h; obtain ⟨⟨⟩, i28, h⟩ := h
          replace h := ob h; obtain ⟨u30, ex29, h⟩ := h
          rcases u30 with j31 | x29
          · replace h := bsl h
            cases h
            refine sx_xcallV (As := [.ref a1]) (rest := []) C hs (c_X10_order hfl ex29) mo_X10_order q652 i28 rfl rfl hl.1 ⟨⟨(Nat.le_of_ble_eq_true rfl), (Nat.le_of_ble_eq_true rfl)⟩, (Nat.le_of_ble_eq_true rfl), (Nat.le_of_ble_eq_true rfl)⟩ rfl (Nat.le_of_ble_eq_true rfl) dX11_joined_78 (fun k9 hk9 ce q9 H locs a1 a2 a3 a4 a5 a6 => ?_) (fun vr hv => (inlr hv).elim)
            obtain rfl := Sum.inl.inj hk9
            exact sx_out C ht a1 a2 a3 a4 a5 a6 (Nat.le_of_ble_eq_true rfl) (Nat.le_of_ble_eq_true rfl)
          · replace h := bsr h
            refine sx_xcallV (As := [.ref a1]) (rest := []) C hs (c_X10_order hfl ex29) mo_X10_order q652 i28 rfl rfl hl.1 ⟨⟨(Nat.le_of_ble_eq_true rfl), (Nat.le_of_ble_eq_true rfl)⟩, (Nat.le_of_ble_eq_true rfl), (Nat.le_of_ble_eq_true rfl)⟩ rfl (Nat.le_of_ble_eq_true rfl) dX11_joined_78 (fun k9 hk9 => (inrl hk9).elim) (fun vr hv H locs hs => ?_)
            obtain rfl := Sum.inr.inj hv
            refine W.eq (g2 := F0 m 81 ls [.int x29]) rfl ?_
            refine W.widen (k := 0) (n := 0) (Nat.le_of_ble_eq_true rfl) (Nat.le_of_ble_eq_true rfl) ?_
            refine lv_if_gt (tgt := 88) C.1 C.2.1 dX11_joined_81 (by decide) (fun c32 => ?_) (fun c32 => ?_)
            · replace h := ip c32 h
              refine lv_aload_n C.1 C.2.1 dX11_joined_88 rfl (lv_at hl 1 rfl) ?_
              cases h
              refine W.widen (k := 1) (n := 6) (Nat.le_of_ble_eq_true rfl) (Nat.le_of_ble_eq_true rfl) ?_
              exact sx_aretX C hs hr (by first | exact Or.inl ⟨_, rfl⟩ | exact Or.inr ⟨_, rfl⟩) dX11_joined_89
            · replace h := iN c32 h
              refine lv_aload_n C.1 C.2.1 dX11_joined_84 rfl (lv_at hl 0 rfl) ?_
              refine lv_goto (tgt := 89) C.1 C.2.1 dX11_joined_85 (by decide) ?_
              cases h
              refine W.widen (k := 1) (n := 6) (Nat.le_of_ble_eq_true rfl) (Nat.le_of_ble_eq_true rfl) ?_
              exact sx_aretX C hs hr (by first | exact Or.inl ⟨_, rfl⟩ | exact Or.inr ⟨_, rfl⟩) dX11_joined_89
def b_X11_join_53 (N : Nat) (σ : Sto) (sz : Nat) (a0 : Nat) (v1 : Int32) (v2 : Int32) (v3 : Int32) (v4 : Int32) : Option ((Nat ⊕ Int32) × Sto × Nat) :=
 (isO σ a0 10).bind fun _ =>
 (f_X11_valueOn σ a0 v1).bind fun u3 =>
 bs u3 (fun j4 => some (.inl j4, σ, sz)) fun p2 =>
 (f_X11_valueOn σ a0 v2).bind fun u6 =>
 bs u6 (fun j7 => some (.inl j7, σ, sz)) fun p5 =>
 b3 (f_X11_joined N σ sz p2 p5 v3) fun u11 τ9 y10 =>
 bs u11 (fun j12 => some (.inl j12, τ9, y10)) fun p8 =>
 (gR τ9 a0 10 0).bind fun p13 =>
 (sQ τ9 p13 4 v4 p8).bind fun τ14 =>
 (gI τ14 p8 9 1).bind fun x15 =>
 some (.inr x15, τ14, y10)
def f_X11_join (N : Nat) (σ : Sto) (sz : Nat) (a0 : Nat) (v1 : Int32) (v2 : Int32) (v3 : Int32) (v4 : Int32) : Option ((Nat ⊕ Int32) × Sto × Nat) :=
 (f_X11_checkShelf v1).bind fun u2 =>
 bs u2 (fun j3 => some (.inl j3, σ, sz)) fun x1 =>
 (f_X11_checkShelf v2).bind fun u5 =>
 bs u5 (fun j6 => some (.inl j6, σ, sz)) fun x4 =>
 (f_X11_checkShelf v4).bind fun u8 =>
 bs u8 (fun j9 => some (.inl j9, σ, sz)) fun x7 =>
 if v3 = 43 then
 b_X11_join_53 N σ sz a0 v1 v2 v3 v4
 else
 if v3 = 45 then
 b_X11_join_53 N σ sz a0 v1 v2 v3 v4
 else
 if v3 = 42 then
 b_X11_join_53 N σ sz a0 v1 v2 v3 v4
 else
 if v3 = 103 then
 b_X11_join_53 N σ sz a0 v1 v2 v3 v4
 else
 if v3 = 108 then
 b_X11_join_53 N σ sz a0 v1 v2 v3 v4
 else
 some (.inl 1, σ, sz)
set_option maxHeartbeats 4000000 in
set_option maxRecDepth 100000 in
theorem t_X11_join_53 {l : Launch} {g : PP} {p : Program} {e : Env} {s : State} {m : MethodId} {args : Array Value} {below : List Frame} {meth : Method} {c : Code} (hfl : l.stackTraces = false) (C : Cx g p s m meth c cX11_join 6 "Tillhouse") (hr : meth.sig.returnType = some .int) (ht : ∀ x ∈ c.exceptionTable.toList, False) {N : Nat}  {σ : Sto} {sz : Nat} {a0 : Nat} {v1 : Int32} {v2 : Int32} {v3 : Int32} {v4 : Int32} {r9 : Nat ⊕ Int32} {σ9 : Sto} {sz9 : Nat}
    (h : b_X11_join_53 N σ sz a0 v1 v2 v3 v4 = some (r9, σ9, sz9)) 
    {H : Heap} {locs : List Loc} {ls : Array Slot} (hs : HS g s σ sz H locs) (hl : lv_has ls 6 [(0, .ref a0), (1, .int v1), (2, .int v2), (3, .int v3), (4, .int v4)]) : W p l e (rmk 11 1 6 218) s m args below meth c H locs 0 0 (vx_MQ below (PstX g (Sum.map id vI r9) σ9 sz9) (XpX g (Sum.map id vI r9) σ9 sz9) args s 1 6 (Aw g)) (F0 m 53 ls []) := by
  unfold b_X11_join_53 at h
  refine lv_aload_n C.1 C.2.1 dX11_join_53 rfl (lv_at hl 0 rfl) ?_
  refine lv_iload_n C.1 C.2.1 dX11_join_54 rfl (lv_at hl 1 rfl) ?_
  replace h := ob h; obtain ⟨⟨⟩, i1, h⟩ := h
  replace h := ob h; obtain ⟨u3, ep2, h⟩ := h
  rcases u3 with j4 | p2
  · replace h := bsl h
    cases h
    refine sx_xcallV (As := [.int v1]) (rest := []) C hs (c_X11_valueOn hfl ep2) mo_X11_valueOn q574 i1 rfl rfl hl.1 ⟨⟨(Nat.le_of_ble_eq_true rfl), (Nat.le_of_ble_eq_true rfl)⟩, (Nat.le_of_ble_eq_true rfl), (Nat.le_of_ble_eq_true rfl)⟩ rfl (Nat.le_of_ble_eq_true rfl) dX11_join_55 (fun k9 hk9 ce q9 H locs a1 a2 a3 a4 a5 a6 => ?_) (fun vr hv => (inlr hv).elim)
    obtain rfl := Sum.inl.inj hk9
    exact sx_out C ht a1 a2 a3 a4 a5 a6 (Nat.le_of_ble_eq_true rfl) (Nat.le_of_ble_eq_true rfl)
  · replace h := bsr h
    refine sx_xcallV (As := [.int v1]) (rest := []) C hs (c_X11_valueOn hfl ep2) mo_X11_valueOn q574 i1 rfl rfl hl.1 ⟨⟨(Nat.le_of_ble_eq_true rfl), (Nat.le_of_ble_eq_true rfl)⟩, (Nat.le_of_ble_eq_true rfl), (Nat.le_of_ble_eq_true rfl)⟩ rfl (Nat.le_of_ble_eq_true rfl) dX11_join_55 (fun k9 hk9 => (inrl hk9).elim) (fun vr hv H locs hs => ?_)
    obtain rfl := Sum.inr.inj hv
    refine W.eq (g2 := F0 m 58 ls [.ref p2]) rfl ?_
    refine W.widen (k := 0) (n := 0) (Nat.le_of_ble_eq_true rfl) (Nat.le_of_ble_eq_true rfl) ?_
    refine lv_aload_n C.1 C.2.1 dX11_join_58 rfl (lv_at hl 0 rfl) ?_
    refine lv_iload_n C.1 C.2.1 dX11_join_59 rfl (lv_at hl 2 rfl) ?_
    replace h := ob h; obtain ⟨u6, ep5, h⟩ := h
    rcases u6 with j7 | p5
    · replace h := bsl h
      cases h
      refine sx_xcallV (As := [.int v2]) (rest := [.ref p2]) C hs (c_X11_valueOn hfl ep5) mo_X11_valueOn q574 i1 rfl rfl hl.1 ⟨⟨(Nat.le_of_ble_eq_true rfl), (Nat.le_of_ble_eq_true rfl)⟩, (Nat.le_of_ble_eq_true rfl), (Nat.le_of_ble_eq_true rfl)⟩ rfl (Nat.le_of_ble_eq_true rfl) dX11_join_60 (fun k9 hk9 ce q9 H locs a1 a2 a3 a4 a5 a6 => ?_) (fun vr hv => (inlr hv).elim)
      obtain rfl := Sum.inl.inj hk9
      exact sx_out C ht a1 a2 a3 a4 a5 a6 (Nat.le_of_ble_eq_true rfl) (Nat.le_of_ble_eq_true rfl)
    · replace h := bsr h
      refine sx_xcallV (As := [.int v2]) (rest := [.ref p2]) C hs (c_X11_valueOn hfl ep5) mo_X11_valueOn q574 i1 rfl rfl hl.1 ⟨⟨(Nat.le_of_ble_eq_true rfl), (Nat.le_of_ble_eq_true rfl)⟩, (Nat.le_of_ble_eq_true rfl), (Nat.le_of_ble_eq_true rfl)⟩ rfl (Nat.le_of_ble_eq_true rfl) dX11_join_60 (fun k9 hk9 => (inrl hk9).elim) (fun vr hv H locs hs => ?_)
      obtain rfl := Sum.inr.inj hv
      refine W.eq (g2 := F0 m 63 ls [.ref p5, .ref p2]) rfl ?_
      refine W.widen (k := 0) (n := 0) (Nat.le_of_ble_eq_true rfl) (Nat.le_of_ble_eq_true rfl) ?_
      refine lv_iload_n C.1 C.2.1 dX11_join_63 rfl (lv_at hl 3 rfl) ?_
      replace h := ob3 h; obtain ⟨u11, τ9, y10, ep8, h⟩ := h
      rcases u11 with j12 | p8
      · replace h := bsl h
        cases h
        refine sx_xcallS (As := [.ref p2, .ref p5, .int v3]) (rest := []) C hs (c_X11_joined hfl ep8) mo_X11_joined q620 rfl hl.1 ⟨⟨(Nat.le_of_ble_eq_true rfl), (Nat.le_of_ble_eq_true rfl)⟩, (Nat.le_of_ble_eq_true rfl), (Nat.le_of_ble_eq_true rfl)⟩ rfl (Nat.le_of_ble_eq_true rfl) dX11_join_64 (fun k9 hk9 ce q9 H locs a1 a2 a3 a4 a5 a6 => ?_) (fun vr hv => (inlr hv).elim)
        obtain rfl := Sum.inl.inj hk9
        exact sx_out C ht a1 a2 a3 a4 a5 a6 (Nat.le_of_ble_eq_true rfl) (Nat.le_of_ble_eq_true rfl)
      · replace h := bsr h
        refine sx_xcallS (As := [.ref p2, .ref p5, .int v3]) (rest := []) C hs (c_X11_joined hfl ep8) mo_X11_joined q620 rfl hl.1 ⟨⟨(Nat.le_of_ble_eq_true rfl), (Nat.le_of_ble_eq_true rfl)⟩, (Nat.le_of_ble_eq_true rfl), (Nat.le_of_ble_eq_true rfl)⟩ rfl (Nat.le_of_ble_eq_true rfl) dX11_join_64 (fun k9 hk9 => (inrl hk9).elim) (fun vr hv H locs hs => ?_)
        obtain rfl := Sum.inr.inj hv
        refine W.eq (g2 := F0 m 67 ls [.ref p8]) rfl ?_
        refine W.widen (k := 1) (n := 6) (Nat.le_of_ble_eq_true rfl) (Nat.le_of_ble_eq_true rfl) ?_
        refine lv_astore (lv' := [(5, .ref p8), (0, .ref a0), (1, .int v1), (2, .int v2), (3, .int v3), (4, .int v4)]) C.1 C.2.1 dX11_join_67 hl (by decide) rfl (fun ls hl => ?_)
        refine lv_aload_n C.1 C.2.1 dX11_join_69 rfl (lv_at hl 1 rfl) ?_
        replace h := ob h; obtain ⟨p13, ep13, h⟩ := h
        refine sx_getV C hs fo_X11_11 (gR_v ep13) dX11_join_70 ?_
        refine lv_iload C.1 C.2.1 dX11_join_73 (lv_at hl 5 rfl) ?_
        refine lv_aload C.1 C.2.1 dX11_join_75 (lv_at hl 0 rfl) ?_
        replace h := ob h; obtain ⟨τ14, eτ14, h⟩ := h
        refine sx_aast (r := (RX10, TX10, 2)) C hs (by decide) rfl rfl eτ14 dX11_join_77 (fun H locs hs => ?_)
        refine lv_aload C.1 C.2.1 dX11_join_78 (lv_at hl 0 rfl) ?_
        replace h := ob h; obtain ⟨x15, ex15, h⟩ := h
        refine sx_getV C hs fo_X11_120 (gI_v ex15) dX11_join_80 ?_
        cases h
        exact sx_iretX C hs hr rfl dX11_join_83
set_option maxHeartbeats 4000000 in
set_option maxRecDepth 100000 in
theorem c_X11_join {l : Launch} (hfl : l.stackTraces = false) {g : PP} {N : Nat} {σ : Sto} {sz : Nat} {a0 : Nat} {v1 : Int32} {v2 : Int32} {v3 : Int32} {v4 : Int32} {r9 : Nat ⊕ Int32} {σ9 : Sto} {sz9 : Nat} (h : f_X11_join N σ sz a0 v1 v2 v3 v4 = some (r9, σ9, sz9)) : vx_Met l yX11_join [Cond.code yX11_join cX11_join 6 (some .int)] (rmk 11 1 6 218) (Pre g σ sz [.ref a0, .int v1, .int v2, .int v3, .int v4]) (PstX g (Sum.map id vI r9) σ9 sz9) (XpX g (Sum.map id vI r9) σ9 sz9) 1 6 (Aw g) := by
  refine vx_ofW (cc := cX11_join) (maxL := 6) (ret := (some .int)) (by decide) rfl ?_
  intro p e s m args below meth c s₁ B hml ht hv
  obtain ⟨rfl, C, hs⟩ := ctx_of B hml hv
  have C : Cx g p s m meth c cX11_join 6 "Tillhouse" := C
  have hr := B.returns
  have hl := lv_entry ([.ref a0, .int v1, .int v2, .int v3, .int v4]) (n := 6) (Nat.le_of_ble_eq_true rfl)
  rw [lg_entry_eq]
  generalize (lg_sl ([.ref a0, .int v1, .int v2, .int v3, .int v4]) ++ List.replicate (6 - (lg_sl ([.ref a0, .int v1, .int v2, .int v3, .int v4])).length) Slot.unset).toArray = ls at hl ⊢
  have hl : lv_has ls 6 [(0, .ref a0), (1, .int v1), (2, .int v2), (3, .int v3), (4, .int v4)] := hl
  unfold f_X11_join at h
  refine lv_iload_n C.1 C.2.1 dX11_join_0 rfl (lv_at hl 1 rfl) ?_
  replace h := ob h; obtain ⟨u2, ex1, h⟩ := h
  rcases u2 with j3 | x1
  · replace h := bsl h
    cases h
    refine sx_xcallS (As := [.int v1]) (rest := []) C hs (c_X11_checkShelf hfl ex1) mo_X11_checkShelf q424 rfl hl.1 ⟨⟨(Nat.le_of_ble_eq_true rfl), (Nat.le_of_ble_eq_true rfl)⟩, (Nat.le_of_ble_eq_true rfl), (Nat.le_of_ble_eq_true rfl)⟩ rfl (Nat.le_of_ble_eq_true rfl) dX11_join_1 (fun k9 hk9 ce q9 H locs a1 a2 a3 a4 a5 a6 => ?_) (fun vr hv => (inlr hv).elim)
    obtain rfl := Sum.inl.inj hk9
    exact sx_out C ht a1 a2 a3 a4 a5 a6 (Nat.le_of_ble_eq_true rfl) (Nat.le_of_ble_eq_true rfl)
  · replace h := bsr h
    refine sx_xcallS (As := [.int v1]) (rest := []) C hs (c_X11_checkShelf hfl ex1) mo_X11_checkShelf q424 rfl hl.1 ⟨⟨(Nat.le_of_ble_eq_true rfl), (Nat.le_of_ble_eq_true rfl)⟩, (Nat.le_of_ble_eq_true rfl), (Nat.le_of_ble_eq_true rfl)⟩ rfl (Nat.le_of_ble_eq_true rfl) dX11_join_1 (fun k9 hk9 => (inrl hk9).elim) (fun vr hv H locs hs => ?_)
    obtain rfl := Sum.inr.inj hv
    refine W.eq (g2 := F0 m 4 ls []) rfl ?_
    refine W.widen (k := 0) (n := 0) (Nat.le_of_ble_eq_true rfl) (Nat.le_of_ble_eq_true rfl) ?_
    refine lv_iload_n C.1 C.2.1 dX11_join_4 rfl (lv_at hl 2 rfl) ?_
    replace h := ob h; obtain ⟨u5, ex4, h⟩ := h
    rcases u5 with j6 | x4
    · replace h := bsl h
      cases h
      refine sx_xcallS (As := [.int v2]) (rest := []) C hs (c_X11_checkShelf hfl ex4) mo_X11_checkShelf q424 rfl hl.1 ⟨⟨(Nat.le_of_ble_eq_true rfl), (Nat.le_of_ble_eq_true rfl)⟩, (Nat.le_of_ble_eq_true rfl), (Nat.le_of_ble_eq_true rfl)⟩ rfl (Nat.le_of_ble_eq_true rfl) dX11_join_5 (fun k9 hk9 ce q9 H locs a1 a2 a3 a4 a5 a6 => ?_) (fun vr hv => (inlr hv).elim)
      obtain rfl := Sum.inl.inj hk9
      exact sx_out C ht a1 a2 a3 a4 a5 a6 (Nat.le_of_ble_eq_true rfl) (Nat.le_of_ble_eq_true rfl)
    · replace h := bsr h
      refine sx_xcallS (As := [.int v2]) (rest := []) C hs (c_X11_checkShelf hfl ex4) mo_X11_checkShelf q424 rfl hl.1 ⟨⟨(Nat.le_of_ble_eq_true rfl), (Nat.le_of_ble_eq_true rfl)⟩, (Nat.le_of_ble_eq_true rfl), (Nat.le_of_ble_eq_true rfl)⟩ rfl (Nat.le_of_ble_eq_true rfl) dX11_join_5 (fun k9 hk9 => (inrl hk9).elim) (fun vr hv H locs hs => ?_)
      obtain rfl := Sum.inr.inj hv
      refine W.eq (g2 := F0 m 8 ls []) rfl ?_
      refine W.widen (k := 0) (n := 0) (Nat.le_of_ble_eq_true rfl) (Nat.le_of_ble_eq_true rfl) ?_
      refine lv_iload C.1 C.2.1 dX11_join_8 (lv_at hl 4 rfl) ?_
      replace h := ob h; obtain ⟨u8, ex7, h⟩ := h
      rcases u8 with j9 | x7
      · replace h := bsl h
        cases h
        refine sx_xcallS (As := [.int v4]) (rest := []) C hs (c_X11_checkShelf hfl ex7) mo_X11_checkShelf q424 rfl hl.1 ⟨⟨(Nat.le_of_ble_eq_true rfl), (Nat.le_of_ble_eq_true rfl)⟩, (Nat.le_of_ble_eq_true rfl), (Nat.le_of_ble_eq_true rfl)⟩ rfl (Nat.le_of_ble_eq_true rfl) dX11_join_10 (fun k9 hk9 ce q9 H locs a1 a2 a3 a4 a5 a6 => ?_) (fun vr hv => (inlr hv).elim)
        obtain rfl := Sum.inl.inj hk9
        exact sx_out C ht a1 a2 a3 a4 a5 a6 (Nat.le_of_ble_eq_true rfl) (Nat.le_of_ble_eq_true rfl)
      · replace h := bsr h
        refine sx_xcallS (As := [.int v4]) (rest := []) C hs (c_X11_checkShelf hfl ex7) mo_X11_checkShelf q424 rfl hl.1 ⟨⟨(Nat.le_of_ble_eq_true rfl), (Nat.le_of_ble_eq_true rfl)⟩, (Nat.le_of_ble_eq_true rfl), (Nat.le_of_ble_eq_true rfl)⟩ rfl (Nat.le_of_ble_eq_true rfl) dX11_join_10 (fun k9 hk9 => (inrl hk9).elim) (fun vr hv H locs hs => ?_)
        obtain rfl := Sum.inr.inj hv
        refine W.eq (g2 := F0 m 13 ls []) rfl ?_
        refine W.widen (k := 0) (n := 0) (Nat.le_of_ble_eq_true rfl) (Nat.le_of_ble_eq_true rfl) ?_
        refine lv_iload_n C.1 C.2.1 dX11_join_13 rfl (lv_at hl 3 rfl) ?_
        refine lv_bipush (v := 43) C.1 C.2.1 dX11_join_14 (by decide) ?_
        refine lv_icmp_eq (tgt := 53) C.1 C.2.1 dX11_join_16 (by decide) (fun c10 => ?_) (fun c10 => ?_)
        · replace h := ip c10 h
          exact t_X11_join_53 hfl C hr ht h hs (lv_sub hl [0, 1, 2, 3, 4] rfl)
        · replace h := iN c10 h
          refine lv_iload_n C.1 C.2.1 dX11_join_19 rfl (lv_at hl 3 rfl) ?_
          refine lv_bipush (v := 45) C.1 C.2.1 dX11_join_20 (by decide) ?_
          refine lv_icmp_eq (tgt := 53) C.1 C.2.1 dX11_join_22 (by decide) (fun c11 => ?_) (fun c11 => ?_)
          · replace h := ip c11 h
            exact t_X11_join_53 hfl C hr ht h hs (lv_sub hl [0, 1, 2, 3, 4] rfl)
          · replace h := iN c11 h
            refine lv_iload_n C.1 C.2.1 dX11_join_25 rfl (lv_at hl 3 rfl) ?_
            refine lv_bipush (v := 42) C.1 C.2.1 dX11_join_26 (by decide) ?_
            refine lv_icmp_eq (tgt := 53) C.1 C.2.1 dX11_join_28 (by decide) (fun c12 => ?_) (fun c12 => ?_)
            · replace h := ip c12 h
              exact t_X11_join_53 hfl C hr ht h hs (lv_sub hl [0, 1, 2, 3, 4] rfl)
            · replace h := iN c12 h
              refine lv_iload_n C.1 C.2.1 dX11_join_31 rfl (lv_at hl 3 rfl) ?_
              refine lv_bipush (v := 103) C.1 C.2.1 dX11_join_32 (by decide) ?_
              refine lv_icmp_eq (tgt := 53) C.1 C.2.1 dX11_join_34 (by decide) (fun c13 => ?_) (fun c13 => ?_)
              · replace h := ip c13 h
                exact t_X11_join_53 hfl C hr ht h hs (lv_sub hl [0, 1, 2, 3, 4] rfl)
              · replace h := iN c13 h
                refine lv_iload_n C.1 C.2.1 dX11_join_37 rfl (lv_at hl 3 rfl) ?_
                refine lv_bipush (v := 108) C.1 C.2.1 dX11_join_38 (by decide) ?_
                refine lv_icmp_eq (tgt := 53) C.1 C.2.1 dX11_join_40 (by decide) (fun c14 => ?_) (fun c14 => ?_)
                · replace h := ip c14 h
                  exact t_X11_join_53 hfl C hr ht h hs (lv_sub hl [0, 1, 2, 3, 4] rfl)
                · replace h := iN c14 h
                  cases h
                  exact sx_throw C hfl hs to_X11_81_134 ht hl.1 dX11_join_43 dX11_join_46 dX11_join_47 dX11_join_49 dX11_join_52 ⟨by decide, (Nat.le_of_ble_eq_true rfl), (Nat.le_of_ble_eq_true rfl), (Nat.le_of_ble_eq_true rfl)⟩ ⟨(Nat.le_of_ble_eq_true rfl), (Nat.le_of_ble_eq_true rfl)⟩
def f_X11_turned (N : Nat) (σ : Sto) (sz : Nat) (a0 : Nat) (v1 : Int32) : Option ((Nat ⊕ Nat) × Sto × Nat) :=
 if v1 = 45 then
 lt_ (nO σ sz 9 dvX10) fun τ2 =>
 (gL τ2 a0 9 0).bind fun x3 =>
 (gI τ2 a0 9 1).bind fun x4 =>
 b2 (f_X10_init τ2 sz (-x3) x4) fun x5 τ6 =>
 some (.inr sz, τ6, sz + 1)
 else
 if v1 = 97 then
 lt_ (nO σ sz 9 dvX10) fun τ8 =>
 (gL τ8 a0 9 0).bind fun x9 =>
 (gI τ8 a0 9 1).bind fun x10 =>
 b2 (f_X10_init τ8 sz (if 0 < x9 then x9 else -x9) x10) fun x11 τ12 =>
 some (.inr sz, τ12, sz + 1)
 else
 (isO σ a0 9).bind fun _ =>
 b3 (f_X10_stripped N σ sz a0) fun u17 τ15 y16 =>
 bs u17 (fun j18 => some (.inl j18, τ15, y16)) fun p14 =>
 some (.inr p14, τ15, y16)
set_option maxHeartbeats 4000000 in
set_option maxRecDepth 100000 in
theorem c_X11_turned {l : Launch} (hfl : l.stackTraces = false) {g : PP} {N : Nat} {σ : Sto} {sz : Nat} {a0 : Nat} {v1 : Int32} {r9 : Nat ⊕ Nat} {σ9 : Sto} {sz9 : Nat} (h : f_X11_turned N σ sz a0 v1 = some (r9, σ9, sz9)) : vx_Met l yX11_turned [Cond.code yX11_turned cX11_turned 2 (some (.object "Tillhouse$Value"))] (rmk 8 1 6 145) (Pre g σ sz [.ref a0, .int v1]) (PstX g (Sum.map id vR r9) σ9 sz9) (XpX g (Sum.map id vR r9) σ9 sz9) 1 6 (Aw g) := by
  refine vx_ofW (cc := cX11_turned) (maxL := 2) (ret := (some (.object "Tillhouse$Value"))) (by decide) rfl ?_
  intro p e s m args below meth c s₁ B hml ht hv
  obtain ⟨rfl, C, hs⟩ := ctx_of B hml hv
  have C : Cx g p s m meth c cX11_turned 2 "Tillhouse" := C
  have hr := B.returns
  have hl := lv_entry ([.ref a0, .int v1]) (n := 2) (Nat.le_of_ble_eq_true rfl)
  rw [lg_entry_eq]
  generalize (lg_sl ([.ref a0, .int v1]) ++ List.replicate (2 - (lg_sl ([.ref a0, .int v1])).length) Slot.unset).toArray = ls at hl ⊢
  have hl : lv_has ls 2 [(0, .ref a0), (1, .int v1)] := hl
  unfold f_X11_turned at h
  refine lv_iload_n C.1 C.2.1 dX11_turned_0 rfl (lv_at hl 1 rfl) ?_
  rcases Decidable.em (v1 = 45) with c1 | c1
  · replace h := ip c1 h
    refine sx_lkp (tgt := 28) (off := 27) C dX11_turned_1 (by decide) (by rw [c1]; decide) (by decide) ?_
    replace h := ol h; obtain ⟨τ2, eτ2, h⟩ := h
    refine sx_new C hs no_X11_9 (Nat.le_of_ble_eq_true rfl) (Nat.le_of_ble_eq_true rfl) dX11_turned_28 (fun H hs => ?_)
    replace hs := HS.nm eτ2 hs
    refine lv_dup C.1 C.2.1 dX11_turned_31 rfl ?_
    refine lv_aload_n C.1 C.2.1 dX11_turned_32 rfl (lv_at hl 0 rfl) ?_
    replace h := ob h; obtain ⟨x3, ex3, h⟩ := h
    refine sx_getV C hs fo_X11_127 (gL_v ex3) dX11_turned_33 ?_
    refine lv_lneg C.1 C.2.1 dX11_turned_36 ?_
    refine lv_aload_n C.1 C.2.1 dX11_turned_37 rfl (lv_at hl 0 rfl) ?_
    replace h := ob h; obtain ⟨x4, ex4, h⟩ := h
    refine sx_getV C hs fo_X11_120 (gI_v ex4) dX11_turned_38 ?_
    replace h := ob2 h; obtain ⟨x5, τ6, ex5, h⟩ := h
    refine sx_callI (As := [.long (-x3), .int x4]) (rest := [.ref sz]) C hs (c_X10_init ex5) mo_X10_init q462 rfl hl.1 ⟨⟨(Nat.le_of_ble_eq_true rfl), (Nat.le_of_ble_eq_true rfl)⟩, (Nat.le_of_ble_eq_true rfl), (Nat.le_of_ble_eq_true rfl)⟩ rfl (Nat.le_of_ble_eq_true rfl) dX11_turned_41 (fun H locs hs => ?_)
    cases h
    refine W.widen (k := 1) (n := 6) (Nat.le_of_ble_eq_true rfl) (Nat.le_of_ble_eq_true rfl) ?_
    exact sx_aretX C hs hr (by first | exact Or.inl ⟨_, rfl⟩ | exact Or.inr ⟨_, rfl⟩) dX11_turned_44
  · replace h := iN c1 h
    rcases Decidable.em (v1 = 97) with c7 | c7
    · replace h := ip c7 h
      refine sx_lkp (tgt := 45) (off := 44) C dX11_turned_1 (by decide) (by rw [c7]; decide) (by decide) ?_
      replace h := ol h; obtain ⟨τ8, eτ8, h⟩ := h
      refine sx_new C hs no_X11_9 (Nat.le_of_ble_eq_true rfl) (Nat.le_of_ble_eq_true rfl) dX11_turned_45 (fun H hs => ?_)
      replace hs := HS.nm eτ8 hs
      refine lv_dup C.1 C.2.1 dX11_turned_48 rfl ?_
      refine lv_aload_n C.1 C.2.1 dX11_turned_49 rfl (lv_at hl 0 rfl) ?_
      replace h := ob h; obtain ⟨x9, ex9, h⟩ := h
      refine sx_getV C hs fo_X11_127 (gL_v ex9) dX11_turned_50 ?_
      refine va_mabs_long C.1 C.2.1 (C.2.2.1.trans hl.1.symm) C.2.2.2.1 (C.2.2.2.2.1.1 _ q672 _) (C.2.2.2.2.1.1 _ mth_va_mabs_long_s _) (C.2.2.2.2.1.1 _ qmath _) (C.2.2.2.2.1.1 _ mth_va_mabs_long_c _) (by exact Nat.le_of_ble_eq_true rfl) (by exact Nat.le_of_ble_eq_true rfl) (by exact Nat.le_of_ble_eq_true rfl) (by exact Nat.le_of_ble_eq_true rfl) dX11_turned_53 ?_
      refine lv_aload_n C.1 C.2.1 dX11_turned_56 rfl (lv_at hl 0 rfl) ?_
      replace h := ob h; obtain ⟨x10, ex10, h⟩ := h
      refine sx_getV C hs fo_X11_120 (gI_v ex10) dX11_turned_57 ?_
      replace h := ob2 h; obtain ⟨x11, τ12, ex11, h⟩ := h
      refine sx_callI (As := [.long (if 0 < x9 then x9 else -x9), .int x10]) (rest := [.ref sz]) C hs (c_X10_init ex11) mo_X10_init q462 rfl hl.1 ⟨⟨(Nat.le_of_ble_eq_true rfl), (Nat.le_of_ble_eq_true rfl)⟩, (Nat.le_of_ble_eq_true rfl), (Nat.le_of_ble_eq_true rfl)⟩ rfl (Nat.le_of_ble_eq_true rfl) dX11_turned_60 (fun H locs hs => ?_)
      cases h
      refine W.widen (k := 1) (n := 6) (Nat.le_of_ble_eq_true rfl) (Nat.le_of_ble_eq_true rfl) ?_
      exact sx_aretX C hs hr (by first | exact Or.inl ⟨_, rfl⟩ | exact Or.inr ⟨_, rfl⟩) dX11_turned_63
    · replace h := iN c7 h
      refine sx_lkp (tgt := 64) (off := 63) C dX11_turned_1 (by decide) ((lv_osw c1 (by decide)).trans ((lv_osw c7 (by decide)).trans rfl)) (by decide) ?_
      refine lv_aload_n C.1 C.2.1 dX11_turned_64 rfl (lv_at hl 0 rfl) ?_
      replace h := ob h; obtain ⟨⟨⟩, i13, h⟩ := h
      replace h := ob3 h; obtain ⟨u17, τ15, y16, ep14, h⟩ := h
      rcases u17 with j18 | p14
      · replace h := bsl h
        cases h
        refine sx_xcallV (As := []) (rest := []) C hs (c_X10_stripped hfl ep14) mo_X10_stripped q673 i13 rfl rfl hl.1 ⟨⟨(Nat.le_of_ble_eq_true rfl), (Nat.le_of_ble_eq_true rfl)⟩, (Nat.le_of_ble_eq_true rfl), (Nat.le_of_ble_eq_true rfl)⟩ rfl (Nat.le_of_ble_eq_true rfl) dX11_turned_65 (fun k9 hk9 ce q9 H locs a1 a2 a3 a4 a5 a6 => ?_) (fun vr hv => (inlr hv).elim)
        obtain rfl := Sum.inl.inj hk9
        exact sx_out C ht a1 a2 a3 a4 a5 a6 (Nat.le_of_ble_eq_true rfl) (Nat.le_of_ble_eq_true rfl)
      · replace h := bsr h
        refine sx_xcallV (As := []) (rest := []) C hs (c_X10_stripped hfl ep14) mo_X10_stripped q673 i13 rfl rfl hl.1 ⟨⟨(Nat.le_of_ble_eq_true rfl), (Nat.le_of_ble_eq_true rfl)⟩, (Nat.le_of_ble_eq_true rfl), (Nat.le_of_ble_eq_true rfl)⟩ rfl (Nat.le_of_ble_eq_true rfl) dX11_turned_65 (fun k9 hk9 => (inrl hk9).elim) (fun vr hv H locs hs => ?_)
        obtain rfl := Sum.inr.inj hv
        refine W.eq (g2 := F0 m 68 ls [.ref p14]) rfl ?_
        refine W.widen (k := 1) (n := 6) (Nat.le_of_ble_eq_true rfl) (Nat.le_of_ble_eq_true rfl) ?_
        cases h
        exact sx_aretX C hs hr (by first | exact Or.inl ⟨_, rfl⟩ | exact Or.inr ⟨_, rfl⟩) dX11_turned_68
def b_X11_turn_36 (N : Nat) (σ : Sto) (sz : Nat) (a0 : Nat) (v1 : Int32) (v2 : Int32) (v3 : Int32) : Option ((Nat ⊕ Int32) × Sto × Nat) :=
 (isO σ a0 10).bind fun _ =>
 (f_X11_valueOn σ a0 v1).bind fun u3 =>
 bs u3 (fun j4 => some (.inl j4, σ, sz)) fun p2 =>
 b3 (f_X11_turned N σ sz p2 v2) fun u8 τ6 y7 =>
 bs u8 (fun j9 => some (.inl j9, τ6, y7)) fun p5 =>
 (gR τ6 a0 10 0).bind fun p10 =>
 (sQ τ6 p10 4 v3 p5).bind fun τ11 =>
 (gI τ11 p5 9 1).bind fun x12 =>
 some (.inr x12, τ11, y7)
def f_X11_turn (N : Nat) (σ : Sto) (sz : Nat) (a0 : Nat) (v1 : Int32) (v2 : Int32) (v3 : Int32) : Option ((Nat ⊕ Int32) × Sto × Nat) :=
 (f_X11_checkShelf v1).bind fun u2 =>
 bs u2 (fun j3 => some (.inl j3, σ, sz)) fun x1 =>
 (f_X11_checkShelf v3).bind fun u5 =>
 bs u5 (fun j6 => some (.inl j6, σ, sz)) fun x4 =>
 if v2 = 45 then
 b_X11_turn_36 N σ sz a0 v1 v2 v3
 else
 if v2 = 97 then
 b_X11_turn_36 N σ sz a0 v1 v2 v3
 else
 if v2 = 115 then
 b_X11_turn_36 N σ sz a0 v1 v2 v3
 else
 some (.inl 1, σ, sz)
set_option maxHeartbeats 4000000 in
set_option maxRecDepth 100000 in
theorem t_X11_turn_36 {l : Launch} {g : PP} {p : Program} {e : Env} {s : State} {m : MethodId} {args : Array Value} {below : List Frame} {meth : Method} {c : Code} (hfl : l.stackTraces = false) (C : Cx g p s m meth c cX11_turn 5 "Tillhouse") (hr : meth.sig.returnType = some .int) (ht : ∀ x ∈ c.exceptionTable.toList, False) {N : Nat}  {σ : Sto} {sz : Nat} {a0 : Nat} {v1 : Int32} {v2 : Int32} {v3 : Int32} {r9 : Nat ⊕ Int32} {σ9 : Sto} {sz9 : Nat}
    (h : b_X11_turn_36 N σ sz a0 v1 v2 v3 = some (r9, σ9, sz9)) 
    {H : Heap} {locs : List Loc} {ls : Array Slot} (hs : HS g s σ sz H locs) (hl : lv_has ls 5 [(0, .ref a0), (1, .int v1), (2, .int v2), (3, .int v3)]) : W p l e (rmk 9 1 6 166) s m args below meth c H locs 0 0 (vx_MQ below (PstX g (Sum.map id vI r9) σ9 sz9) (XpX g (Sum.map id vI r9) σ9 sz9) args s 1 6 (Aw g)) (F0 m 36 ls []) := by
  unfold b_X11_turn_36 at h
  refine lv_aload_n C.1 C.2.1 dX11_turn_36 rfl (lv_at hl 0 rfl) ?_
  refine lv_iload_n C.1 C.2.1 dX11_turn_37 rfl (lv_at hl 1 rfl) ?_
  replace h := ob h; obtain ⟨⟨⟩, i1, h⟩ := h
  replace h := ob h; obtain ⟨u3, ep2, h⟩ := h
  rcases u3 with j4 | p2
  · replace h := bsl h
    cases h
    refine sx_xcallV (As := [.int v1]) (rest := []) C hs (c_X11_valueOn hfl ep2) mo_X11_valueOn q574 i1 rfl rfl hl.1 ⟨⟨(Nat.le_of_ble_eq_true rfl), (Nat.le_of_ble_eq_true rfl)⟩, (Nat.le_of_ble_eq_true rfl), (Nat.le_of_ble_eq_true rfl)⟩ rfl (Nat.le_of_ble_eq_true rfl) dX11_turn_38 (fun k9 hk9 ce q9 H locs a1 a2 a3 a4 a5 a6 => ?_) (fun vr hv => (inlr hv).elim)
    obtain rfl := Sum.inl.inj hk9
    exact sx_out C ht a1 a2 a3 a4 a5 a6 (Nat.le_of_ble_eq_true rfl) (Nat.le_of_ble_eq_true rfl)
  · replace h := bsr h
    refine sx_xcallV (As := [.int v1]) (rest := []) C hs (c_X11_valueOn hfl ep2) mo_X11_valueOn q574 i1 rfl rfl hl.1 ⟨⟨(Nat.le_of_ble_eq_true rfl), (Nat.le_of_ble_eq_true rfl)⟩, (Nat.le_of_ble_eq_true rfl), (Nat.le_of_ble_eq_true rfl)⟩ rfl (Nat.le_of_ble_eq_true rfl) dX11_turn_38 (fun k9 hk9 => (inrl hk9).elim) (fun vr hv H locs hs => ?_)
    obtain rfl := Sum.inr.inj hv
    refine W.eq (g2 := F0 m 41 ls [.ref p2]) rfl ?_
    refine W.widen (k := 0) (n := 0) (Nat.le_of_ble_eq_true rfl) (Nat.le_of_ble_eq_true rfl) ?_
    refine lv_iload_n C.1 C.2.1 dX11_turn_41 rfl (lv_at hl 2 rfl) ?_
    replace h := ob3 h; obtain ⟨u8, τ6, y7, ep5, h⟩ := h
    rcases u8 with j9 | p5
    · replace h := bsl h
      cases h
      refine sx_xcallS (As := [.ref p2, .int v2]) (rest := []) C hs (c_X11_turned hfl ep5) mo_X11_turned q669 rfl hl.1 ⟨⟨(Nat.le_of_ble_eq_true rfl), (Nat.le_of_ble_eq_true rfl)⟩, (Nat.le_of_ble_eq_true rfl), (Nat.le_of_ble_eq_true rfl)⟩ rfl (Nat.le_of_ble_eq_true rfl) dX11_turn_42 (fun k9 hk9 ce q9 H locs a1 a2 a3 a4 a5 a6 => ?_) (fun vr hv => (inlr hv).elim)
      obtain rfl := Sum.inl.inj hk9
      exact sx_out C ht a1 a2 a3 a4 a5 a6 (Nat.le_of_ble_eq_true rfl) (Nat.le_of_ble_eq_true rfl)
    · replace h := bsr h
      refine sx_xcallS (As := [.ref p2, .int v2]) (rest := []) C hs (c_X11_turned hfl ep5) mo_X11_turned q669 rfl hl.1 ⟨⟨(Nat.le_of_ble_eq_true rfl), (Nat.le_of_ble_eq_true rfl)⟩, (Nat.le_of_ble_eq_true rfl), (Nat.le_of_ble_eq_true rfl)⟩ rfl (Nat.le_of_ble_eq_true rfl) dX11_turn_42 (fun k9 hk9 => (inrl hk9).elim) (fun vr hv H locs hs => ?_)
      obtain rfl := Sum.inr.inj hv
      refine W.eq (g2 := F0 m 45 ls [.ref p5]) rfl ?_
      refine W.widen (k := 1) (n := 6) (Nat.le_of_ble_eq_true rfl) (Nat.le_of_ble_eq_true rfl) ?_
      refine lv_astore (lv' := [(4, .ref p5), (0, .ref a0), (1, .int v1), (2, .int v2), (3, .int v3)]) C.1 C.2.1 dX11_turn_45 hl (by decide) rfl (fun ls hl => ?_)
      refine lv_aload_n C.1 C.2.1 dX11_turn_47 rfl (lv_at hl 1 rfl) ?_
      replace h := ob h; obtain ⟨p10, ep10, h⟩ := h
      refine sx_getV C hs fo_X11_11 (gR_v ep10) dX11_turn_48 ?_
      refine lv_iload_n C.1 C.2.1 dX11_turn_51 rfl (lv_at hl 4 rfl) ?_
      refine lv_aload C.1 C.2.1 dX11_turn_52 (lv_at hl 0 rfl) ?_
      replace h := ob h; obtain ⟨τ11, eτ11, h⟩ := h
      refine sx_aast (r := (RX10, TX10, 2)) C hs (by decide) rfl rfl eτ11 dX11_turn_54 (fun H locs hs => ?_)
      refine lv_aload C.1 C.2.1 dX11_turn_55 (lv_at hl 0 rfl) ?_
      replace h := ob h; obtain ⟨x12, ex12, h⟩ := h
      refine sx_getV C hs fo_X11_120 (gI_v ex12) dX11_turn_57 ?_
      cases h
      exact sx_iretX C hs hr rfl dX11_turn_60
set_option maxHeartbeats 4000000 in
set_option maxRecDepth 100000 in
theorem c_X11_turn {l : Launch} (hfl : l.stackTraces = false) {g : PP} {N : Nat} {σ : Sto} {sz : Nat} {a0 : Nat} {v1 : Int32} {v2 : Int32} {v3 : Int32} {r9 : Nat ⊕ Int32} {σ9 : Sto} {sz9 : Nat} (h : f_X11_turn N σ sz a0 v1 v2 v3 = some (r9, σ9, sz9)) : vx_Met l yX11_turn [Cond.code yX11_turn cX11_turn 5 (some .int)] (rmk 9 1 6 166) (Pre g σ sz [.ref a0, .int v1, .int v2, .int v3]) (PstX g (Sum.map id vI r9) σ9 sz9) (XpX g (Sum.map id vI r9) σ9 sz9) 1 6 (Aw g) := by
  refine vx_ofW (cc := cX11_turn) (maxL := 5) (ret := (some .int)) (by decide) rfl ?_
  intro p e s m args below meth c s₁ B hml ht hv
  obtain ⟨rfl, C, hs⟩ := ctx_of B hml hv
  have C : Cx g p s m meth c cX11_turn 5 "Tillhouse" := C
  have hr := B.returns
  have hl := lv_entry ([.ref a0, .int v1, .int v2, .int v3]) (n := 5) (Nat.le_of_ble_eq_true rfl)
  rw [lg_entry_eq]
  generalize (lg_sl ([.ref a0, .int v1, .int v2, .int v3]) ++ List.replicate (5 - (lg_sl ([.ref a0, .int v1, .int v2, .int v3])).length) Slot.unset).toArray = ls at hl ⊢
  have hl : lv_has ls 5 [(0, .ref a0), (1, .int v1), (2, .int v2), (3, .int v3)] := hl
  unfold f_X11_turn at h
  refine lv_iload_n C.1 C.2.1 dX11_turn_0 rfl (lv_at hl 1 rfl) ?_
  replace h := ob h; obtain ⟨u2, ex1, h⟩ := h
  rcases u2 with j3 | x1
  · replace h := bsl h
    cases h
    refine sx_xcallS (As := [.int v1]) (rest := []) C hs (c_X11_checkShelf hfl ex1) mo_X11_checkShelf q424 rfl hl.1 ⟨⟨(Nat.le_of_ble_eq_true rfl), (Nat.le_of_ble_eq_true rfl)⟩, (Nat.le_of_ble_eq_true rfl), (Nat.le_of_ble_eq_true rfl)⟩ rfl (Nat.le_of_ble_eq_true rfl) dX11_turn_1 (fun k9 hk9 ce q9 H locs a1 a2 a3 a4 a5 a6 => ?_) (fun vr hv => (inlr hv).elim)
    obtain rfl := Sum.inl.inj hk9
    exact sx_out C ht a1 a2 a3 a4 a5 a6 (Nat.le_of_ble_eq_true rfl) (Nat.le_of_ble_eq_true rfl)
  · replace h := bsr h
    refine sx_xcallS (As := [.int v1]) (rest := []) C hs (c_X11_checkShelf hfl ex1) mo_X11_checkShelf q424 rfl hl.1 ⟨⟨(Nat.le_of_ble_eq_true rfl), (Nat.le_of_ble_eq_true rfl)⟩, (Nat.le_of_ble_eq_true rfl), (Nat.le_of_ble_eq_true rfl)⟩ rfl (Nat.le_of_ble_eq_true rfl) dX11_turn_1 (fun k9 hk9 => (inrl hk9).elim) (fun vr hv H locs hs => ?_)
    obtain rfl := Sum.inr.inj hv
    refine W.eq (g2 := F0 m 4 ls []) rfl ?_
    refine W.widen (k := 0) (n := 0) (Nat.le_of_ble_eq_true rfl) (Nat.le_of_ble_eq_true rfl) ?_
    refine lv_iload_n C.1 C.2.1 dX11_turn_4 rfl (lv_at hl 3 rfl) ?_
    replace h := ob h; obtain ⟨u5, ex4, h⟩ := h
    rcases u5 with j6 | x4
    · replace h := bsl h
      cases h
      refine sx_xcallS (As := [.int v3]) (rest := []) C hs (c_X11_checkShelf hfl ex4) mo_X11_checkShelf q424 rfl hl.1 ⟨⟨(Nat.le_of_ble_eq_true rfl), (Nat.le_of_ble_eq_true rfl)⟩, (Nat.le_of_ble_eq_true rfl), (Nat.le_of_ble_eq_true rfl)⟩ rfl (Nat.le_of_ble_eq_true rfl) dX11_turn_5 (fun k9 hk9 ce q9 H locs a1 a2 a3 a4 a5 a6 => ?_) (fun vr hv => (inlr hv).elim)
      obtain rfl := Sum.inl.inj hk9
      exact sx_out C ht a1 a2 a3 a4 a5 a6 (Nat.le_of_ble_eq_true rfl) (Nat.le_of_ble_eq_true rfl)
    · replace h := bsr h
      refine sx_xcallS (As := [.int v3]) (rest := []) C hs (c_X11_checkShelf hfl ex4) mo_X11_checkShelf q424 rfl hl.1 ⟨⟨(Nat.le_of_ble_eq_true rfl), (Nat.le_of_ble_eq_true rfl)⟩, (Nat.le_of_ble_eq_true rfl), (Nat.le_of_ble_eq_true rfl)⟩ rfl (Nat.le_of_ble_eq_true rfl) dX11_turn_5 (fun k9 hk9 => (inrl hk9).elim) (fun vr hv H locs hs => ?_)
      obtain rfl := Sum.inr.inj hv
      refine W.eq (g2 := F0 m 8 ls []) rfl ?_
      refine W.widen (k := 0) (n := 0) (Nat.le_of_ble_eq_true rfl) (Nat.le_of_ble_eq_true rfl) ?_
      refine lv_iload_n C.1 C.2.1 dX11_turn_8 rfl (lv_at hl 2 rfl) ?_
      refine lv_bipush (v := 45) C.1 C.2.1 dX11_turn_9 (by decide) ?_
      refine lv_icmp_eq (tgt := 36) C.1 C.2.1 dX11_turn_11 (by decide) (fun c7 => ?_) (fun c7 => ?_)
      · replace h := ip c7 h
        exact t_X11_turn_36 hfl C hr ht h hs (lv_sub hl [0, 1, 2, 3] rfl)
      · replace h := iN c7 h
        refine lv_iload_n C.1 C.2.1 dX11_turn_14 rfl (lv_at hl 2 rfl) ?_
        refine lv_bipush (v := 97) C.1 C.2.1 dX11_turn_15 (by decide) ?_
        refine lv_icmp_eq (tgt := 36) C.1 C.2.1 dX11_turn_17 (by decide) (fun c8 => ?_) (fun c8 => ?_)
        · replace h := ip c8 h
          exact t_X11_turn_36 hfl C hr ht h hs (lv_sub hl [0, 1, 2, 3] rfl)
        · replace h := iN c8 h
          refine lv_iload_n C.1 C.2.1 dX11_turn_20 rfl (lv_at hl 2 rfl) ?_
          refine lv_bipush (v := 115) C.1 C.2.1 dX11_turn_21 (by decide) ?_
          refine lv_icmp_eq (tgt := 36) C.1 C.2.1 dX11_turn_23 (by decide) (fun c9 => ?_) (fun c9 => ?_)
          · replace h := ip c9 h
            exact t_X11_turn_36 hfl C hr ht h hs (lv_sub hl [0, 1, 2, 3] rfl)
          · replace h := iN c9 h
            cases h
            exact sx_throw C hfl hs to_X11_81_134 ht hl.1 dX11_turn_26 dX11_turn_29 dX11_turn_30 dX11_turn_32 dX11_turn_35 ⟨by decide, (Nat.le_of_ble_eq_true rfl), (Nat.le_of_ble_eq_true rfl), (Nat.le_of_ble_eq_true rfl)⟩ ⟨(Nat.le_of_ble_eq_true rfl), (Nat.le_of_ble_eq_true rfl)⟩
def f_X11_move (σ : Sto) (sz : Nat) (a0 : Nat) (v1 : Int32) (v2 : Int32) (v3 : Int32) : Option ((Nat ⊕ Int32) × Sto × Nat) :=
 (f_X11_checkShelf v1).bind fun u2 =>
 bs u2 (fun j3 => some (.inl j3, σ, sz)) fun x1 =>
 (f_X11_checkShelf v3).bind fun u5 =>
 bs u5 (fun j6 => some (.inl j6, σ, sz)) fun x4 =>
 if v2 = 0 then
 some (.inl 1, σ, sz)
 else
 if v2 < (-20) then
 some (.inl 1, σ, sz)
 else
 if v2 ≤ 20 then
 (isO σ a0 10).bind fun _ =>
 (f_X11_valueOn σ a0 v1).bind fun u12 =>
 bs u12 (fun j13 => some (.inl j13, σ, sz)) fun p11 =>
 (isO σ p11 9).bind fun _ =>
 b3 (f_X10_moved σ sz p11 v2) fun u18 τ16 y17 =>
 bs u18 (fun j19 => some (.inl j19, τ16, y17)) fun p15 =>
 (gR τ16 a0 10 0).bind fun p20 =>
 (sQ τ16 p20 4 v3 p15).bind fun τ21 =>
 (gI τ21 p15 9 1).bind fun x22 =>
 some (.inr x22, τ21, y17)
 else
 some (.inl 1, σ, sz)
set_option maxHeartbeats 4000000 in
set_option maxRecDepth 100000 in
theorem c_X11_move {l : Launch} (hfl : l.stackTraces = false) {g : PP} {σ : Sto} {sz : Nat} {a0 : Nat} {v1 : Int32} {v2 : Int32} {v3 : Int32} {r9 : Nat ⊕ Int32} {σ9 : Sto} {sz9 : Nat} (h : f_X11_move σ sz a0 v1 v2 v3 = some (r9, σ9, sz9)) : vx_Met l yX11_move [Cond.code yX11_move cX11_move 5 (some .int)] (rmk 8 1 6 148) (Pre g σ sz [.ref a0, .int v1, .int v2, .int v3]) (PstX g (Sum.map id vI r9) σ9 sz9) (XpX g (Sum.map id vI r9) σ9 sz9) 1 6 (Aw g) := by
  refine vx_ofW (cc := cX11_move) (maxL := 5) (ret := (some .int)) (by decide) rfl ?_
  intro p e s m args below meth c s₁ B hml ht hv
  obtain ⟨rfl, C, hs⟩ := ctx_of B hml hv
  have C : Cx g p s m meth c cX11_move 5 "Tillhouse" := C
  have hr := B.returns
  have hl := lv_entry ([.ref a0, .int v1, .int v2, .int v3]) (n := 5) (Nat.le_of_ble_eq_true rfl)
  rw [lg_entry_eq]
  generalize (lg_sl ([.ref a0, .int v1, .int v2, .int v3]) ++ List.replicate (5 - (lg_sl ([.ref a0, .int v1, .int v2, .int v3])).length) Slot.unset).toArray = ls at hl ⊢
  have hl : lv_has ls 5 [(0, .ref a0), (1, .int v1), (2, .int v2), (3, .int v3)] := hl
  unfold f_X11_move at h
  refine lv_iload_n C.1 C.2.1 dX11_move_0 rfl (lv_at hl 1 rfl) ?_
  replace h := ob h; obtain ⟨u2, ex1, h⟩ := h
  rcases u2 with j3 | x1
  · replace h := bsl h
    cases h
    refine sx_xcallS (As := [.int v1]) (rest := []) C hs (c_X11_checkShelf hfl ex1) mo_X11_checkShelf q424 rfl hl.1 ⟨⟨(Nat.le_of_ble_eq_true rfl), (Nat.le_of_ble_eq_true rfl)⟩, (Nat.le_of_ble_eq_true rfl), (Nat.le_of_ble_eq_true rfl)⟩ rfl (Nat.le_of_ble_eq_true rfl) dX11_move_1 (fun k9 hk9 ce q9 H locs a1 a2 a3 a4 a5 a6 => ?_) (fun vr hv => (inlr hv).elim)
    obtain rfl := Sum.inl.inj hk9
    exact sx_out C ht a1 a2 a3 a4 a5 a6 (Nat.le_of_ble_eq_true rfl) (Nat.le_of_ble_eq_true rfl)
  · replace h := bsr h
    refine sx_xcallS (As := [.int v1]) (rest := []) C hs (c_X11_checkShelf hfl ex1) mo_X11_checkShelf q424 rfl hl.1 ⟨⟨(Nat.le_of_ble_eq_true rfl), (Nat.le_of_ble_eq_true rfl)⟩, (Nat.le_of_ble_eq_true rfl), (Nat.le_of_ble_eq_true rfl)⟩ rfl (Nat.le_of_ble_eq_true rfl) dX11_move_1 (fun k9 hk9 => (inrl hk9).elim) (fun vr hv H locs hs => ?_)
    obtain rfl := Sum.inr.inj hv
    refine W.eq (g2 := F0 m 4 ls []) rfl ?_
    refine W.widen (k := 0) (n := 0) (Nat.le_of_ble_eq_true rfl) (Nat.le_of_ble_eq_true rfl) ?_
    refine lv_iload_n C.1 C.2.1 dX11_move_4 rfl (lv_at hl 3 rfl) ?_
    replace h := ob h; obtain ⟨u5, ex4, h⟩ := h
    rcases u5 with j6 | x4
    · replace h := bsl h
      cases h
      refine sx_xcallS (As := [.int v3]) (rest := []) C hs (c_X11_checkShelf hfl ex4) mo_X11_checkShelf q424 rfl hl.1 ⟨⟨(Nat.le_of_ble_eq_true rfl), (Nat.le_of_ble_eq_true rfl)⟩, (Nat.le_of_ble_eq_true rfl), (Nat.le_of_ble_eq_true rfl)⟩ rfl (Nat.le_of_ble_eq_true rfl) dX11_move_5 (fun k9 hk9 ce q9 H locs a1 a2 a3 a4 a5 a6 => ?_) (fun vr hv => (inlr hv).elim)
      obtain rfl := Sum.inl.inj hk9
      exact sx_out C ht a1 a2 a3 a4 a5 a6 (Nat.le_of_ble_eq_true rfl) (Nat.le_of_ble_eq_true rfl)
    · replace h := bsr h
      refine sx_xcallS (As := [.int v3]) (rest := []) C hs (c_X11_checkShelf hfl ex4) mo_X11_checkShelf q424 rfl hl.1 ⟨⟨(Nat.le_of_ble_eq_true rfl), (Nat.le_of_ble_eq_true rfl)⟩, (Nat.le_of_ble_eq_true rfl), (Nat.le_of_ble_eq_true rfl)⟩ rfl (Nat.le_of_ble_eq_true rfl) dX11_move_5 (fun k9 hk9 => (inrl hk9).elim) (fun vr hv H locs hs => ?_)
      obtain rfl := Sum.inr.inj hv
      refine W.eq (g2 := F0 m 8 ls []) rfl ?_
      refine W.widen (k := 0) (n := 0) (Nat.le_of_ble_eq_true rfl) (Nat.le_of_ble_eq_true rfl) ?_
      refine lv_iload_n C.1 C.2.1 dX11_move_8 rfl (lv_at hl 2 rfl) ?_
      refine lv_if_eq (tgt := 24) C.1 C.2.1 dX11_move_9 (by decide) (fun c7 => ?_) (fun c7 => ?_)
      · replace h := ip c7 h
        cases h
        exact sx_throw C hfl hs to_X11_81_144 ht hl.1 dX11_move_24 dX11_move_27 dX11_move_28 dX11_move_30 dX11_move_33 ⟨by decide, (Nat.le_of_ble_eq_true rfl), (Nat.le_of_ble_eq_true rfl), (Nat.le_of_ble_eq_true rfl)⟩ ⟨(Nat.le_of_ble_eq_true rfl), (Nat.le_of_ble_eq_true rfl)⟩
      · replace h := iN c7 h
        refine lv_iload_n C.1 C.2.1 dX11_move_12 rfl (lv_at hl 2 rfl) ?_
        refine lv_bipush (v := (-20)) C.1 C.2.1 dX11_move_13 (by decide) ?_
        refine lv_icmp_lt (tgt := 24) C.1 C.2.1 dX11_move_15 (by decide) (fun c8 => ?_) (fun c8 => ?_)
        · replace h := ip c8 h
          cases h
          exact sx_throw C hfl hs to_X11_81_144 ht hl.1 dX11_move_24 dX11_move_27 dX11_move_28 dX11_move_30 dX11_move_33 ⟨by decide, (Nat.le_of_ble_eq_true rfl), (Nat.le_of_ble_eq_true rfl), (Nat.le_of_ble_eq_true rfl)⟩ ⟨(Nat.le_of_ble_eq_true rfl), (Nat.le_of_ble_eq_true rfl)⟩
        · replace h := iN c8 h
          refine lv_iload_n C.1 C.2.1 dX11_move_18 rfl (lv_at hl 2 rfl) ?_
          refine lv_bipush (v := 20) C.1 C.2.1 dX11_move_19 (by decide) ?_
          refine lv_icmp_le (tgt := 34) C.1 C.2.1 dX11_move_21 (by decide) (fun c9 => ?_) (fun c9 => ?_)
          · replace h := ip c9 h
            refine lv_aload_n C.1 C.2.1 dX11_move_34 rfl (lv_at hl 0 rfl) ?_
            refine lv_iload_n C.1 C.2.1 dX11_move_35 rfl (lv_at hl 1 rfl) ?_
            replace h := ob h; obtain ⟨⟨⟩, i10, h⟩ := h
            replace h := ob h; obtain ⟨u12, ep11, h⟩ := h
            rcases u12 with j13 | p11
            · replace h := bsl h
              cases h
              refine sx_xcallV (As := [.int v1]) (rest := []) C hs (c_X11_valueOn hfl ep11) mo_X11_valueOn q574 i10 rfl rfl hl.1 ⟨⟨(Nat.le_of_ble_eq_true rfl), (Nat.le_of_ble_eq_true rfl)⟩, (Nat.le_of_ble_eq_true rfl), (Nat.le_of_ble_eq_true rfl)⟩ rfl (Nat.le_of_ble_eq_true rfl) dX11_move_36 (fun k9 hk9 ce q9 H locs a1 a2 a3 a4 a5 a6 => ?_) (fun vr hv => (inlr hv).elim)
              obtain rfl := Sum.inl.inj hk9
              exact sx_out C ht a1 a2 a3 a4 a5 a6 (Nat.le_of_ble_eq_true rfl) (Nat.le_of_ble_eq_true rfl)
            · replace h := bsr h
              refine sx_xcallV (As := [.int v1]) (rest := []) C hs (c_X11_valueOn hfl ep11) mo_X11_valueOn q574 i10 rfl rfl hl.1 ⟨⟨(Nat.le_of_ble_eq_true rfl), (Nat.le_of_ble_eq_true rfl)⟩, (Nat.le_of_ble_eq_true rfl), (Nat.le_of_ble_eq_true rfl)⟩ rfl (Nat.le_of_ble_eq_true rfl) dX11_move_36 (fun k9 hk9 => (inrl hk9).elim) (fun vr hv H locs hs => ?_)
              obtain rfl := Sum.inr.inj hv
              refine W.eq (g2 := F0 m 39 ls [.ref p11]) rfl ?_
              refine W.widen (k := 0) (n := 0) (Nat.le_of_ble_eq_true rfl) (Nat.le_of_ble_eq_true rfl) ?_
              refine lv_iload_n C.1 C.2.1 dX11_move_39 rfl (lv_at hl 2 rfl) ?_
              replace h := ob h; obtain ⟨⟨⟩, i14, h⟩ := h
              replace h := ob3 h; obtain ⟨u18, τ16, y17, ep15, h⟩ := h
              rcases u18 with j19 | p15
              · replace h := bsl h
                cases h
                refine sx_xcallV (As := [.int v2]) (rest := []) C hs (c_X10_moved hfl ep15) mo_X10_moved q686 i14 rfl rfl hl.1 ⟨⟨(Nat.le_of_ble_eq_true rfl), (Nat.le_of_ble_eq_true rfl)⟩, (Nat.le_of_ble_eq_true rfl), (Nat.le_of_ble_eq_true rfl)⟩ rfl (Nat.le_of_ble_eq_true rfl) dX11_move_40 (fun k9 hk9 ce q9 H locs a1 a2 a3 a4 a5 a6 => ?_) (fun vr hv => (inlr hv).elim)
                obtain rfl := Sum.inl.inj hk9
                exact sx_out C ht a1 a2 a3 a4 a5 a6 (Nat.le_of_ble_eq_true rfl) (Nat.le_of_ble_eq_true rfl)
              · replace h := bsr h
                refine sx_xcallV (As := [.int v2]) (rest := []) C hs (c_X10_moved hfl ep15) mo_X10_moved q686 i14 rfl rfl hl.1 ⟨⟨(Nat.le_of_ble_eq_true rfl), (Nat.le_of_ble_eq_true rfl)⟩, (Nat.le_of_ble_eq_true rfl), (Nat.le_of_ble_eq_true rfl)⟩ rfl (Nat.le_of_ble_eq_true rfl) dX11_move_40 (fun k9 hk9 => (inrl hk9).elim) (fun vr hv H locs hs => ?_)
                obtain rfl := Sum.inr.inj hv
                refine W.eq (g2 := F0 m 43 ls [.ref p15]) rfl ?_
                refine W.widen (k := 1) (n := 6) (Nat.le_of_ble_eq_true rfl) (Nat.le_of_ble_eq_true rfl) ?_
                refine lv_astore (lv' := [(4, .ref p15), (0, .ref a0), (1, .int v1), (2, .int v2), (3, .int v3)]) C.1 C.2.1 dX11_move_43 hl (by decide) rfl (fun ls hl => ?_)
                refine lv_aload_n C.1 C.2.1 dX11_move_45 rfl (lv_at hl 1 rfl) ?_
                replace h := ob h; obtain ⟨p20, ep20, h⟩ := h
                refine sx_getV C hs fo_X11_11 (gR_v ep20) dX11_move_46 ?_
                refine lv_iload_n C.1 C.2.1 dX11_move_49 rfl (lv_at hl 4 rfl) ?_
                refine lv_aload C.1 C.2.1 dX11_move_50 (lv_at hl 0 rfl) ?_
                replace h := ob h; obtain ⟨τ21, eτ21, h⟩ := h
                refine sx_aast (r := (RX10, TX10, 2)) C hs (by decide) rfl rfl eτ21 dX11_move_52 (fun H locs hs => ?_)
                refine lv_aload C.1 C.2.1 dX11_move_53 (lv_at hl 0 rfl) ?_
                replace h := ob h; obtain ⟨x22, ex22, h⟩ := h
                refine sx_getV C hs fo_X11_120 (gI_v ex22) dX11_move_55 ?_
                cases h
                exact sx_iretX C hs hr rfl dX11_move_58
          · replace h := iN c9 h
            cases h
            exact sx_throw C hfl hs to_X11_81_144 ht hl.1 dX11_move_24 dX11_move_27 dX11_move_28 dX11_move_30 dX11_move_33 ⟨by decide, (Nat.le_of_ble_eq_true rfl), (Nat.le_of_ble_eq_true rfl), (Nat.le_of_ble_eq_true rfl)⟩ ⟨(Nat.le_of_ble_eq_true rfl), (Nat.le_of_ble_eq_true rfl)⟩
def f_X11_checkScale (v0 : Int32) : Option ((Nat ⊕ Unit)) :=
 if v0 < (-18) then
 some (.inl 1)
 else
 if v0 ≤ 36 then
 some (.inr ())
 else
 some (.inl 1)
set_option maxHeartbeats 4000000 in
set_option maxRecDepth 100000 in
theorem c_X11_checkScale {l : Launch} (hfl : l.stackTraces = false) {g : PP} {σ : Sto} {sz : Nat} {v0 : Int32} {r9 : Nat ⊕ Unit} (h : f_X11_checkScale v0 = some r9) : vx_Met l yX11_checkScale [Cond.code yX11_checkScale cX11_checkScale 1 none] (rmk 6 (cX r9) (cY r9) 100) (Pre g σ sz [.int v0]) (PstX g (Sum.map id vV r9) σ sz) (XpX g (Sum.map id vV r9) σ sz) (cX r9) (cY r9) (Aw g) := by
  refine vx_ofW (cc := cX11_checkScale) (maxL := 1) (ret := none) (by decide) rfl ?_
  intro p e s m args below meth c s₁ B hml ht hv
  obtain ⟨rfl, C, hs⟩ := ctx_of B hml hv
  have C : Cx g p s m meth c cX11_checkScale 1 "Tillhouse" := C
  have hr := B.returns
  have hl := lv_entry ([.int v0]) (n := 1) (Nat.le_of_ble_eq_true rfl)
  rw [lg_entry_eq]
  generalize (lg_sl ([.int v0]) ++ List.replicate (1 - (lg_sl ([.int v0])).length) Slot.unset).toArray = ls at hl ⊢
  have hl : lv_has ls 1 [(0, .int v0)] := hl
  unfold f_X11_checkScale at h
  refine lv_iload_n C.1 C.2.1 dX11_checkScale_0 rfl (lv_at hl 0 rfl) ?_
  refine lv_bipush (v := (-18)) C.1 C.2.1 dX11_checkScale_1 (by decide) ?_
  refine lv_icmp_lt (tgt := 12) C.1 C.2.1 dX11_checkScale_3 (by decide) (fun c1 => ?_) (fun c1 => ?_)
  · replace h := ip c1 h
    cases h
    exact sx_throw C hfl hs to_X11_81_200 ht hl.1 dX11_checkScale_12 dX11_checkScale_15 dX11_checkScale_16 dX11_checkScale_18 dX11_checkScale_21 ⟨by decide, (Nat.le_of_ble_eq_true rfl), (Nat.le_of_ble_eq_true rfl), (Nat.le_of_ble_eq_true rfl)⟩ ⟨(Nat.le_of_ble_eq_true rfl), (Nat.le_of_ble_eq_true rfl)⟩
  · replace h := iN c1 h
    refine lv_iload_n C.1 C.2.1 dX11_checkScale_6 rfl (lv_at hl 0 rfl) ?_
    refine lv_bipush (v := 36) C.1 C.2.1 dX11_checkScale_7 (by decide) ?_
    refine lv_icmp_le (tgt := 22) C.1 C.2.1 dX11_checkScale_9 (by decide) (fun c2 => ?_) (fun c2 => ?_)
    · replace h := ip c2 h
      cases h
      exact sx_vretX C hs hr dX11_checkScale_22
    · replace h := iN c2 h
      cases h
      exact sx_throw C hfl hs to_X11_81_200 ht hl.1 dX11_checkScale_12 dX11_checkScale_15 dX11_checkScale_16 dX11_checkScale_18 dX11_checkScale_21 ⟨by decide, (Nat.le_of_ble_eq_true rfl), (Nat.le_of_ble_eq_true rfl), (Nat.le_of_ble_eq_true rfl)⟩ ⟨(Nat.le_of_ble_eq_true rfl), (Nat.le_of_ble_eq_true rfl)⟩
def f_X11_checkMode (v0 : Int32) : Option ((Nat ⊕ Unit)) :=
 (f_X6_isMode v0).bind fun x1 =>
 if x1 = 0 then
 some (.inl 1)
 else
 some (.inr ())
set_option maxHeartbeats 4000000 in
set_option maxRecDepth 100000 in
theorem c_X11_checkMode {l : Launch} (hfl : l.stackTraces = false) {g : PP} {σ : Sto} {sz : Nat} {v0 : Int32} {r9 : Nat ⊕ Unit} (h : f_X11_checkMode v0 = some r9) : vx_Met l yX11_checkMode [Cond.code yX11_checkMode cX11_checkMode 1 none] (rmk 6 (cX r9) (cY r9) 100) (Pre g σ sz [.int v0]) (PstX g (Sum.map id vV r9) σ sz) (XpX g (Sum.map id vV r9) σ sz) (cX r9) (cY r9) (Aw g) := by
  refine vx_ofW (cc := cX11_checkMode) (maxL := 1) (ret := none) (by decide) rfl ?_
  intro p e s m args below meth c s₁ B hml ht hv
  obtain ⟨rfl, C, hs⟩ := ctx_of B hml hv
  have C : Cx g p s m meth c cX11_checkMode 1 "Tillhouse" := C
  have hr := B.returns
  have hl := lv_entry ([.int v0]) (n := 1) (Nat.le_of_ble_eq_true rfl)
  rw [lg_entry_eq]
  generalize (lg_sl ([.int v0]) ++ List.replicate (1 - (lg_sl ([.int v0])).length) Slot.unset).toArray = ls at hl ⊢
  have hl : lv_has ls 1 [(0, .int v0)] := hl
  unfold f_X11_checkMode at h
  refine lv_iload_n C.1 C.2.1 dX11_checkMode_0 rfl (lv_at hl 0 rfl) ?_
  replace h := ob h; obtain ⟨x1, ex1, h⟩ := h
  refine sx_callS (As := [.int v0]) (rest := []) C hs (c_X6_isMode ex1) mo_X6_isMode q704 rfl hl.1 ⟨⟨(Nat.le_of_ble_eq_true rfl), (Nat.le_of_ble_eq_true rfl)⟩, (Nat.le_of_ble_eq_true rfl), (Nat.le_of_ble_eq_true rfl)⟩ rfl (Nat.le_of_ble_eq_true rfl) dX11_checkMode_1 (fun H locs hs => ?_)
  refine W.eq (g2 := F0 m 4 ls [.int x1]) rfl ?_
  refine lv_if_ne (tgt := 17) C.1 C.2.1 dX11_checkMode_4 (by decide) (fun c2 => ?_) (fun c2 => ?_)
  · replace h := iN c2 h
    cases h
    exact sx_vretX C hs hr dX11_checkMode_17
  · replace h := ip c2 h
    cases h
    exact sx_throw C hfl hs to_X11_81_208 ht hl.1 dX11_checkMode_7 dX11_checkMode_10 dX11_checkMode_11 dX11_checkMode_13 dX11_checkMode_16 ⟨by decide, (Nat.le_of_ble_eq_true rfl), (Nat.le_of_ble_eq_true rfl), (Nat.le_of_ble_eq_true rfl)⟩ ⟨(Nat.le_of_ble_eq_true rfl), (Nat.le_of_ble_eq_true rfl)⟩
def f_X11_setScale (N : Nat) (σ : Sto) (sz : Nat) (a0 : Nat) (v1 : Int32) (v2 : Int32) (v3 : Int32) (v4 : Int32) : Option ((Nat ⊕ Int32) × Sto × Nat) :=
 (f_X11_checkShelf v1).bind fun u2 =>
 bs u2 (fun j3 => some (.inl j3, σ, sz)) fun x1 =>
 (f_X11_checkShelf v4).bind fun u5 =>
 bs u5 (fun j6 => some (.inl j6, σ, sz)) fun x4 =>
 (f_X11_checkScale v2).bind fun u8 =>
 bs u8 (fun j9 => some (.inl j9, σ, sz)) fun x7 =>
 (f_X11_checkMode v3).bind fun u11 =>
 bs u11 (fun j12 => some (.inl j12, σ, sz)) fun x10 =>
 (isO σ a0 10).bind fun _ =>
 (f_X11_valueOn σ a0 v1).bind fun u15 =>
 bs u15 (fun j16 => some (.inl j16, σ, sz)) fun p14 =>
 (isO σ p14 9).bind fun _ =>
 b3 (f_X10_toScale σ sz p14 v2 v3) fun u21 τ19 y20 =>
 bs u21 (fun j22 => some (.inl j22, τ19, y20)) fun p18 =>
 (gR τ19 a0 10 0).bind fun p23 =>
 (sQ τ19 p23 4 v4 p18).bind fun τ24 =>
 (isO τ24 p18 9).bind fun _ =>
 (f_X10_digits N τ24 p18).bind fun x26 =>
 some (.inr x26, τ24, y20)
set_option maxHeartbeats 4000000 in
set_option maxRecDepth 100000 in
theorem c_X11_setScale {l : Launch} (hfl : l.stackTraces = false) {g : PP} {N : Nat} {σ : Sto} {sz : Nat} {a0 : Nat} {v1 : Int32} {v2 : Int32} {v3 : Int32} {v4 : Int32} {r9 : Nat ⊕ Int32} {σ9 : Sto} {sz9 : Nat} (h : f_X11_setScale N σ sz a0 v1 v2 v3 v4 = some (r9, σ9, sz9)) : vx_Met l yX11_setScale [Cond.code yX11_setScale cX11_setScale 6 (some .int)] (rmk 10 1 6 195) (Pre g σ sz [.ref a0, .int v1, .int v2, .int v3, .int v4]) (PstX g (Sum.map id vI r9) σ9 sz9) (XpX g (Sum.map id vI r9) σ9 sz9) 1 6 (Aw g) := by
  refine vx_ofW (cc := cX11_setScale) (maxL := 6) (ret := (some .int)) (by decide) rfl ?_
  intro p e s m args below meth c s₁ B hml ht hv
  obtain ⟨rfl, C, hs⟩ := ctx_of B hml hv
  have C : Cx g p s m meth c cX11_setScale 6 "Tillhouse" := C
  have hr := B.returns
  have hl := lv_entry ([.ref a0, .int v1, .int v2, .int v3, .int v4]) (n := 6) (Nat.le_of_ble_eq_true rfl)
  rw [lg_entry_eq]
  generalize (lg_sl ([.ref a0, .int v1, .int v2, .int v3, .int v4]) ++ List.replicate (6 - (lg_sl ([.ref a0, .int v1, .int v2, .int v3, .int v4])).length) Slot.unset).toArray = ls at hl ⊢
  have hl : lv_has ls 6 [(0, .ref a0), (1, .int v1), (2, .int v2), (3, .int v3), (4, .int v4)] := hl
  unfold f_X11_setScale at h
  refine lv_iload_n C.1 C.2.1 dX11_setScale_0 rfl (lv_at hl 1 rfl) ?_
  replace h := ob h; obtain ⟨u2, ex1, h⟩ := h
  rcases u2 with j3 | x1
  · replace h := bsl h
    cases h
    refine sx_xcallS (As := [.int v1]) (rest := []) C hs (c_X11_checkShelf hfl ex1) mo_X11_checkShelf q424 rfl hl.1 ⟨⟨(Nat.le_of_ble_eq_true rfl), (Nat.le_of_ble_eq_true rfl)⟩, (Nat.le_of_ble_eq_true rfl), (Nat.le_of_ble_eq_true rfl)⟩ rfl (Nat.le_of_ble_eq_true rfl) dX11_setScale_1 (fun k9 hk9 ce q9 H locs a1 a2 a3 a4 a5 a6 => ?_) (fun vr hv => (inlr hv).elim)
    obtain rfl := Sum.inl.inj hk9
    exact sx_out C ht a1 a2 a3 a4 a5 a6 (Nat.le_of_ble_eq_true rfl) (Nat.le_of_ble_eq_true rfl)
  · replace h := bsr h
    refine sx_xcallS (As := [.int v1]) (rest := []) C hs (c_X11_checkShelf hfl ex1) mo_X11_checkShelf q424 rfl hl.1 ⟨⟨(Nat.le_of_ble_eq_true rfl), (Nat.le_of_ble_eq_true rfl)⟩, (Nat.le_of_ble_eq_true rfl), (Nat.le_of_ble_eq_true rfl)⟩ rfl (Nat.le_of_ble_eq_true rfl) dX11_setScale_1 (fun k9 hk9 => (inrl hk9).elim) (fun vr hv H locs hs => ?_)
    obtain rfl := Sum.inr.inj hv
    refine W.eq (g2 := F0 m 4 ls []) rfl ?_
    refine W.widen (k := 0) (n := 0) (Nat.le_of_ble_eq_true rfl) (Nat.le_of_ble_eq_true rfl) ?_
    refine lv_iload C.1 C.2.1 dX11_setScale_4 (lv_at hl 4 rfl) ?_
    replace h := ob h; obtain ⟨u5, ex4, h⟩ := h
    rcases u5 with j6 | x4
    · replace h := bsl h
      cases h
      refine sx_xcallS (As := [.int v4]) (rest := []) C hs (c_X11_checkShelf hfl ex4) mo_X11_checkShelf q424 rfl hl.1 ⟨⟨(Nat.le_of_ble_eq_true rfl), (Nat.le_of_ble_eq_true rfl)⟩, (Nat.le_of_ble_eq_true rfl), (Nat.le_of_ble_eq_true rfl)⟩ rfl (Nat.le_of_ble_eq_true rfl) dX11_setScale_6 (fun k9 hk9 ce q9 H locs a1 a2 a3 a4 a5 a6 => ?_) (fun vr hv => (inlr hv).elim)
      obtain rfl := Sum.inl.inj hk9
      exact sx_out C ht a1 a2 a3 a4 a5 a6 (Nat.le_of_ble_eq_true rfl) (Nat.le_of_ble_eq_true rfl)
    · replace h := bsr h
      refine sx_xcallS (As := [.int v4]) (rest := []) C hs (c_X11_checkShelf hfl ex4) mo_X11_checkShelf q424 rfl hl.1 ⟨⟨(Nat.le_of_ble_eq_true rfl), (Nat.le_of_ble_eq_true rfl)⟩, (Nat.le_of_ble_eq_true rfl), (Nat.le_of_ble_eq_true rfl)⟩ rfl (Nat.le_of_ble_eq_true rfl) dX11_setScale_6 (fun k9 hk9 => (inrl hk9).elim) (fun vr hv H locs hs => ?_)
      obtain rfl := Sum.inr.inj hv
      refine W.eq (g2 := F0 m 9 ls []) rfl ?_
      refine W.widen (k := 0) (n := 0) (Nat.le_of_ble_eq_true rfl) (Nat.le_of_ble_eq_true rfl) ?_
      refine lv_iload_n C.1 C.2.1 dX11_setScale_9 rfl (lv_at hl 2 rfl) ?_
      replace h := ob h; obtain ⟨u8, ex7, h⟩ := h
      rcases u8 with j9 | x7
      · replace h := bsl h
        cases h
        refine sx_xcallS (As := [.int v2]) (rest := []) C hs (c_X11_checkScale hfl ex7) mo_X11_checkScale q697 rfl hl.1 ⟨⟨(Nat.le_of_ble_eq_true rfl), (Nat.le_of_ble_eq_true rfl)⟩, (Nat.le_of_ble_eq_true rfl), (Nat.le_of_ble_eq_true rfl)⟩ rfl (Nat.le_of_ble_eq_true rfl) dX11_setScale_10 (fun k9 hk9 ce q9 H locs a1 a2 a3 a4 a5 a6 => ?_) (fun vr hv => (inlr hv).elim)
        obtain rfl := Sum.inl.inj hk9
        exact sx_out C ht a1 a2 a3 a4 a5 a6 (Nat.le_of_ble_eq_true rfl) (Nat.le_of_ble_eq_true rfl)
      · replace h := bsr h
        refine sx_xcallS (As := [.int v2]) (rest := []) C hs (c_X11_checkScale hfl ex7) mo_X11_checkScale q697 rfl hl.1 ⟨⟨(Nat.le_of_ble_eq_true rfl), (Nat.le_of_ble_eq_true rfl)⟩, (Nat.le_of_ble_eq_true rfl), (Nat.le_of_ble_eq_true rfl)⟩ rfl (Nat.le_of_ble_eq_true rfl) dX11_setScale_10 (fun k9 hk9 => (inrl hk9).elim) (fun vr hv H locs hs => ?_)
        obtain rfl := Sum.inr.inj hv
        refine W.eq (g2 := F0 m 13 ls []) rfl ?_
        refine W.widen (k := 0) (n := 0) (Nat.le_of_ble_eq_true rfl) (Nat.le_of_ble_eq_true rfl) ?_
        refine lv_iload_n C.1 C.2.1 dX11_setScale_13 rfl (lv_at hl 3 rfl) ?_
        replace h := ob h; obtain ⟨u11, ex10, h⟩ := h
        rcases u11 with j12 | x10
        · replace h := bsl h
          cases h
          refine sx_xcallS (As := [.int v3]) (rest := []) C hs (c_X11_checkMode hfl ex10) mo_X11_checkMode q701 rfl hl.1 ⟨⟨(Nat.le_of_ble_eq_true rfl), (Nat.le_of_ble_eq_true rfl)⟩, (Nat.le_of_ble_eq_true rfl), (Nat.le_of_ble_eq_true rfl)⟩ rfl (Nat.le_of_ble_eq_true rfl) dX11_setScale_14 (fun k9 hk9 ce q9 H locs a1 a2 a3 a4 a5 a6 => ?_) (fun vr hv => (inlr hv).elim)
          obtain rfl := Sum.inl.inj hk9
          exact sx_out C ht a1 a2 a3 a4 a5 a6 (Nat.le_of_ble_eq_true rfl) (Nat.le_of_ble_eq_true rfl)
        · replace h := bsr h
          refine sx_xcallS (As := [.int v3]) (rest := []) C hs (c_X11_checkMode hfl ex10) mo_X11_checkMode q701 rfl hl.1 ⟨⟨(Nat.le_of_ble_eq_true rfl), (Nat.le_of_ble_eq_true rfl)⟩, (Nat.le_of_ble_eq_true rfl), (Nat.le_of_ble_eq_true rfl)⟩ rfl (Nat.le_of_ble_eq_true rfl) dX11_setScale_14 (fun k9 hk9 => (inrl hk9).elim) (fun vr hv H locs hs => ?_)
          obtain rfl := Sum.inr.inj hv
          refine W.eq (g2 := F0 m 17 ls []) rfl ?_
          refine W.widen (k := 0) (n := 0) (Nat.le_of_ble_eq_true rfl) (Nat.le_of_ble_eq_true rfl) ?_
          refine lv_aload_n C.1 C.2.1 dX11_setScale_17 rfl (lv_at hl 0 rfl) ?_
          refine lv_iload_n C.1 C.2.1 dX11_setScale_18 rfl (lv_at hl 1 rfl) ?_
          replace h := ob h; obtain ⟨⟨⟩, i13, h⟩ := h
          replace h := ob h; obtain ⟨u15, ep14, h⟩ := h
          rcases u15 with j16 | p14
          · replace h := bsl h
            cases h
            refine sx_xcallV (As := [.int v1]) (rest := []) C hs (c_X11_valueOn hfl ep14) mo_X11_valueOn q574 i13 rfl rfl hl.1 ⟨⟨(Nat.le_of_ble_eq_true rfl), (Nat.le_of_ble_eq_true rfl)⟩, (Nat.le_of_ble_eq_true rfl), (Nat.le_of_ble_eq_true rfl)⟩ rfl (Nat.le_of_ble_eq_true rfl) dX11_setScale_19 (fun k9 hk9 ce q9 H locs a1 a2 a3 a4 a5 a6 => ?_) (fun vr hv => (inlr hv).elim)
            obtain rfl := Sum.inl.inj hk9
            exact sx_out C ht a1 a2 a3 a4 a5 a6 (Nat.le_of_ble_eq_true rfl) (Nat.le_of_ble_eq_true rfl)
          · replace h := bsr h
            refine sx_xcallV (As := [.int v1]) (rest := []) C hs (c_X11_valueOn hfl ep14) mo_X11_valueOn q574 i13 rfl rfl hl.1 ⟨⟨(Nat.le_of_ble_eq_true rfl), (Nat.le_of_ble_eq_true rfl)⟩, (Nat.le_of_ble_eq_true rfl), (Nat.le_of_ble_eq_true rfl)⟩ rfl (Nat.le_of_ble_eq_true rfl) dX11_setScale_19 (fun k9 hk9 => (inrl hk9).elim) (fun vr hv H locs hs => ?_)
            obtain rfl := Sum.inr.inj hv
            refine W.eq (g2 := F0 m 22 ls [.ref p14]) rfl ?_
            refine W.widen (k := 0) (n := 0) (Nat.le_of_ble_eq_true rfl) (Nat.le_of_ble_eq_true rfl) ?_
            refine lv_iload_n C.1 C.2.1 dX11_setScale_22 rfl (lv_at hl 2 rfl) ?_
            refine lv_iload_n C.1 C.2.1 dX11_setScale_23 rfl (lv_at hl 3 rfl) ?_
            replace h := ob h; obtain ⟨⟨⟩, i17, h⟩ := h
            replace h := ob3 h; obtain ⟨u21, τ19, y20, ep18, h⟩ := h
            rcases u21 with j22 | p18
            · replace h := bsl h
              cases h
              refine sx_xcallV (As := [.int v2, .int v3]) (rest := []) C hs (c_X10_toScale hfl ep18) mo_X10_toScale q708 i17 rfl rfl hl.1 ⟨⟨(Nat.le_of_ble_eq_true rfl), (Nat.le_of_ble_eq_true rfl)⟩, (Nat.le_of_ble_eq_true rfl), (Nat.le_of_ble_eq_true rfl)⟩ rfl (Nat.le_of_ble_eq_true rfl) dX11_setScale_24 (fun k9 hk9 ce q9 H locs a1 a2 a3 a4 a5 a6 => ?_) (fun vr hv => (inlr hv).elim)
              obtain rfl := Sum.inl.inj hk9
              exact sx_out C ht a1 a2 a3 a4 a5 a6 (Nat.le_of_ble_eq_true rfl) (Nat.le_of_ble_eq_true rfl)
            · replace h := bsr h
              refine sx_xcallV (As := [.int v2, .int v3]) (rest := []) C hs (c_X10_toScale hfl ep18) mo_X10_toScale q708 i17 rfl rfl hl.1 ⟨⟨(Nat.le_of_ble_eq_true rfl), (Nat.le_of_ble_eq_true rfl)⟩, (Nat.le_of_ble_eq_true rfl), (Nat.le_of_ble_eq_true rfl)⟩ rfl (Nat.le_of_ble_eq_true rfl) dX11_setScale_24 (fun k9 hk9 => (inrl hk9).elim) (fun vr hv H locs hs => ?_)
              obtain rfl := Sum.inr.inj hv
              refine W.eq (g2 := F0 m 27 ls [.ref p18]) rfl ?_
              refine W.widen (k := 1) (n := 6) (Nat.le_of_ble_eq_true rfl) (Nat.le_of_ble_eq_true rfl) ?_
              refine lv_astore (lv' := [(5, .ref p18), (0, .ref a0), (1, .int v1), (2, .int v2), (3, .int v3), (4, .int v4)]) C.1 C.2.1 dX11_setScale_27 hl (by decide) rfl (fun ls hl => ?_)
              refine lv_aload_n C.1 C.2.1 dX11_setScale_29 rfl (lv_at hl 1 rfl) ?_
              replace h := ob h; obtain ⟨p23, ep23, h⟩ := h
              refine sx_getV C hs fo_X11_11 (gR_v ep23) dX11_setScale_30 ?_
              refine lv_iload C.1 C.2.1 dX11_setScale_33 (lv_at hl 5 rfl) ?_
              refine lv_aload C.1 C.2.1 dX11_setScale_35 (lv_at hl 0 rfl) ?_
              replace h := ob h; obtain ⟨τ24, eτ24, h⟩ := h
              refine sx_aast (r := (RX10, TX10, 2)) C hs (by decide) rfl rfl eτ24 dX11_setScale_37 (fun H locs hs => ?_)
              refine lv_aload C.1 C.2.1 dX11_setScale_38 (lv_at hl 0 rfl) ?_
              replace h := ob h; obtain ⟨⟨⟩, i25, h⟩ := h
              replace h := ob h; obtain ⟨x26, ex26, h⟩ := h
              refine sx_callV (As := []) (rest := []) C hs (c_X10_digits ex26) mo_X10_digits q475 i25 rfl rfl hl.1 ⟨⟨(Nat.le_of_ble_eq_true rfl), (Nat.le_of_ble_eq_true rfl)⟩, (Nat.le_of_ble_eq_true rfl), (Nat.le_of_ble_eq_true rfl)⟩ rfl (Nat.le_of_ble_eq_true rfl) dX11_setScale_40 (fun H locs hs => ?_)
              refine W.eq (g2 := F0 m 43 ls [.int x26]) rfl ?_
              cases h
              exact sx_iretX C hs hr rfl dX11_setScale_43
def f_X11_round (N : Nat) (σ : Sto) (sz : Nat) (a0 : Nat) (v1 : Int32) (v2 : Int32) (v3 : Int32) (v4 : Int32) : Option ((Nat ⊕ Int32) × Sto × Nat) :=
 (f_X11_checkShelf v1).bind fun u2 =>
 bs u2 (fun j3 => some (.inl j3, σ, sz)) fun x1 =>
 (f_X11_checkShelf v4).bind fun u5 =>
 bs u5 (fun j6 => some (.inl j6, σ, sz)) fun x4 =>
 if v2 < 1 then
 some (.inl 1, σ, sz)
 else
 if v2 ≤ 18 then
 (f_X11_checkMode v3).bind fun u10 =>
 bs u10 (fun j11 => some (.inl j11, σ, sz)) fun x9 =>
 (isO σ a0 10).bind fun _ =>
 (f_X11_valueOn σ a0 v1).bind fun u14 =>
 bs u14 (fun j15 => some (.inl j15, σ, sz)) fun p13 =>
 (isO σ p13 9).bind fun _ =>
 b3 (f_X10_toDigits N σ sz p13 v2 v3) fun u20 τ18 y19 =>
 bs u20 (fun j21 => some (.inl j21, τ18, y19)) fun p17 =>
 (gR τ18 a0 10 0).bind fun p22 =>
 (sQ τ18 p22 4 v4 p17).bind fun τ23 =>
 (gI τ23 p17 9 1).bind fun x24 =>
 some (.inr x24, τ23, y19)
 else
 some (.inl 1, σ, sz)
set_option maxHeartbeats 4000000 in
set_option maxRecDepth 100000 in
theorem c_X11_round {l : Launch} (hfl : l.stackTraces = false) {g : PP} {N : Nat} {σ : Sto} {sz : Nat} {a0 : Nat} {v1 : Int32} {v2 : Int32} {v3 : Int32} {v4 : Int32} {r9 : Nat ⊕ Int32} {σ9 : Sto} {sz9 : Nat} (h : f_X11_round N σ sz a0 v1 v2 v3 v4 = some (r9, σ9, sz9)) : vx_Met l yX11_round [Cond.code yX11_round cX11_round 6 (some .int)] (rmk 10 1 6 198) (Pre g σ sz [.ref a0, .int v1, .int v2, .int v3, .int v4]) (PstX g (Sum.map id vI r9) σ9 sz9) (XpX g (Sum.map id vI r9) σ9 sz9) 1 6 (Aw g) := by
  refine vx_ofW (cc := cX11_round) (maxL := 6) (ret := (some .int)) (by decide) rfl ?_
  intro p e s m args below meth c s₁ B hml ht hv
  obtain ⟨rfl, C, hs⟩ := ctx_of B hml hv
  have C : Cx g p s m meth c cX11_round 6 "Tillhouse" := C
  have hr := B.returns
  have hl := lv_entry ([.ref a0, .int v1, .int v2, .int v3, .int v4]) (n := 6) (Nat.le_of_ble_eq_true rfl)
  rw [lg_entry_eq]
  generalize (lg_sl ([.ref a0, .int v1, .int v2, .int v3, .int v4]) ++ List.replicate (6 - (lg_sl ([.ref a0, .int v1, .int v2, .int v3, .int v4])).length) Slot.unset).toArray = ls at hl ⊢
  have hl : lv_has ls 6 [(0, .ref a0), (1, .int v1), (2, .int v2), (3, .int v3), (4, .int v4)] := hl
  unfold f_X11_round at h
  refine lv_iload_n C.1 C.2.1 dX11_round_0 rfl (lv_at hl 1 rfl) ?_
  replace h := ob h; obtain ⟨u2, ex1, h⟩ := h
  rcases u2 with j3 | x1
  · replace h := bsl h
    cases h
    refine sx_xcallS (As := [.int v1]) (rest := []) C hs (c_X11_checkShelf hfl ex1) mo_X11_checkShelf q424 rfl hl.1 ⟨⟨(Nat.le_of_ble_eq_true rfl), (Nat.le_of_ble_eq_true rfl)⟩, (Nat.le_of_ble_eq_true rfl), (Nat.le_of_ble_eq_true rfl)⟩ rfl (Nat.le_of_ble_eq_true rfl) dX11_round_1 (fun k9 hk9 ce q9 H locs a1 a2 a3 a4 a5 a6 => ?_) (fun vr hv => (inlr hv).elim)
    obtain rfl := Sum.inl.inj hk9
    exact sx_out C ht a1 a2 a3 a4 a5 a6 (Nat.le_of_ble_eq_true rfl) (Nat.le_of_ble_eq_true rfl)
  · replace h := bsr h
    refine sx_xcallS (As := [.int v1]) (rest := []) C hs (c_X11_checkShelf hfl ex1) mo_X11_checkShelf q424 rfl hl.1 ⟨⟨(Nat.le_of_ble_eq_true rfl), (Nat.le_of_ble_eq_true rfl)⟩, (Nat.le_of_ble_eq_true rfl), (Nat.le_of_ble_eq_true rfl)⟩ rfl (Nat.le_of_ble_eq_true rfl) dX11_round_1 (fun k9 hk9 => (inrl hk9).elim) (fun vr hv H locs hs => ?_)
    obtain rfl := Sum.inr.inj hv
    refine W.eq (g2 := F0 m 4 ls []) rfl ?_
    refine W.widen (k := 0) (n := 0) (Nat.le_of_ble_eq_true rfl) (Nat.le_of_ble_eq_true rfl) ?_
    refine lv_iload C.1 C.2.1 dX11_round_4 (lv_at hl 4 rfl) ?_
    replace h := ob h; obtain ⟨u5, ex4, h⟩ := h
    rcases u5 with j6 | x4
    · replace h := bsl h
      cases h
      refine sx_xcallS (As := [.int v4]) (rest := []) C hs (c_X11_checkShelf hfl ex4) mo_X11_checkShelf q424 rfl hl.1 ⟨⟨(Nat.le_of_ble_eq_true rfl), (Nat.le_of_ble_eq_true rfl)⟩, (Nat.le_of_ble_eq_true rfl), (Nat.le_of_ble_eq_true rfl)⟩ rfl (Nat.le_of_ble_eq_true rfl) dX11_round_6 (fun k9 hk9 ce q9 H locs a1 a2 a3 a4 a5 a6 => ?_) (fun vr hv => (inlr hv).elim)
      obtain rfl := Sum.inl.inj hk9
      exact sx_out C ht a1 a2 a3 a4 a5 a6 (Nat.le_of_ble_eq_true rfl) (Nat.le_of_ble_eq_true rfl)
    · replace h := bsr h
      refine sx_xcallS (As := [.int v4]) (rest := []) C hs (c_X11_checkShelf hfl ex4) mo_X11_checkShelf q424 rfl hl.1 ⟨⟨(Nat.le_of_ble_eq_true rfl), (Nat.le_of_ble_eq_true rfl)⟩, (Nat.le_of_ble_eq_true rfl), (Nat.le_of_ble_eq_true rfl)⟩ rfl (Nat.le_of_ble_eq_true rfl) dX11_round_6 (fun k9 hk9 => (inrl hk9).elim) (fun vr hv H locs hs => ?_)
      obtain rfl := Sum.inr.inj hv
      refine W.eq (g2 := F0 m 9 ls []) rfl ?_
      refine W.widen (k := 0) (n := 0) (Nat.le_of_ble_eq_true rfl) (Nat.le_of_ble_eq_true rfl) ?_
      refine lv_iload_n C.1 C.2.1 dX11_round_9 rfl (lv_at hl 2 rfl) ?_
      refine lv_iconst (v := 1) C.1 C.2.1 dX11_round_10 (by decide) ?_
      refine lv_icmp_lt (tgt := 20) C.1 C.2.1 dX11_round_11 (by decide) (fun c7 => ?_) (fun c7 => ?_)
      · replace h := ip c7 h
        cases h
        exact sx_throw C hfl hs to_X11_81_160 ht hl.1 dX11_round_20 dX11_round_23 dX11_round_24 dX11_round_26 dX11_round_29 ⟨by decide, (Nat.le_of_ble_eq_true rfl), (Nat.le_of_ble_eq_true rfl), (Nat.le_of_ble_eq_true rfl)⟩ ⟨(Nat.le_of_ble_eq_true rfl), (Nat.le_of_ble_eq_true rfl)⟩
      · replace h := iN c7 h
        refine lv_iload_n C.1 C.2.1 dX11_round_14 rfl (lv_at hl 2 rfl) ?_
        refine lv_bipush (v := 18) C.1 C.2.1 dX11_round_15 (by decide) ?_
        refine lv_icmp_le (tgt := 30) C.1 C.2.1 dX11_round_17 (by decide) (fun c8 => ?_) (fun c8 => ?_)
        · replace h := ip c8 h
          refine lv_iload_n C.1 C.2.1 dX11_round_30 rfl (lv_at hl 3 rfl) ?_
          replace h := ob h; obtain ⟨u10, ex9, h⟩ := h
          rcases u10 with j11 | x9
          · replace h := bsl h
            cases h
            refine sx_xcallS (As := [.int v3]) (rest := []) C hs (c_X11_checkMode hfl ex9) mo_X11_checkMode q701 rfl hl.1 ⟨⟨(Nat.le_of_ble_eq_true rfl), (Nat.le_of_ble_eq_true rfl)⟩, (Nat.le_of_ble_eq_true rfl), (Nat.le_of_ble_eq_true rfl)⟩ rfl (Nat.le_of_ble_eq_true rfl) dX11_round_31 (fun k9 hk9 ce q9 H locs a1 a2 a3 a4 a5 a6 => ?_) (fun vr hv => (inlr hv).elim)
            obtain rfl := Sum.inl.inj hk9
            exact sx_out C ht a1 a2 a3 a4 a5 a6 (Nat.le_of_ble_eq_true rfl) (Nat.le_of_ble_eq_true rfl)
          · replace h := bsr h
            refine sx_xcallS (As := [.int v3]) (rest := []) C hs (c_X11_checkMode hfl ex9) mo_X11_checkMode q701 rfl hl.1 ⟨⟨(Nat.le_of_ble_eq_true rfl), (Nat.le_of_ble_eq_true rfl)⟩, (Nat.le_of_ble_eq_true rfl), (Nat.le_of_ble_eq_true rfl)⟩ rfl (Nat.le_of_ble_eq_true rfl) dX11_round_31 (fun k9 hk9 => (inrl hk9).elim) (fun vr hv H locs hs => ?_)
            obtain rfl := Sum.inr.inj hv
            refine W.eq (g2 := F0 m 34 ls []) rfl ?_
            refine W.widen (k := 0) (n := 0) (Nat.le_of_ble_eq_true rfl) (Nat.le_of_ble_eq_true rfl) ?_
            refine lv_aload_n C.1 C.2.1 dX11_round_34 rfl (lv_at hl 0 rfl) ?_
            refine lv_iload_n C.1 C.2.1 dX11_round_35 rfl (lv_at hl 1 rfl) ?_
            replace h := ob h; obtain ⟨⟨⟩, i12, h⟩ := h
            replace h := ob h; obtain ⟨u14, ep13, h⟩ := h
            rcases u14 with j15 | p13
            · replace h := bsl h
              cases h
              refine sx_xcallV (As := [.int v1]) (rest := []) C hs (c_X11_valueOn hfl ep13) mo_X11_valueOn q574 i12 rfl rfl hl.1 ⟨⟨(Nat.le_of_ble_eq_true rfl), (Nat.le_of_ble_eq_true rfl)⟩, (Nat.le_of_ble_eq_true rfl), (Nat.le_of_ble_eq_true rfl)⟩ rfl (Nat.le_of_ble_eq_true rfl) dX11_round_36 (fun k9 hk9 ce q9 H locs a1 a2 a3 a4 a5 a6 => ?_) (fun vr hv => (inlr hv).elim)
              obtain rfl := Sum.inl.inj hk9
              exact sx_out C ht a1 a2 a3 a4 a5 a6 (Nat.le_of_ble_eq_true rfl) (Nat.le_of_ble_eq_true rfl)
            · replace h := bsr h
              refine sx_xcallV (As := [.int v1]) (rest := []) C hs (c_X11_valueOn hfl ep13) mo_X11_valueOn q574 i12 rfl rfl hl.1 ⟨⟨(Nat.le_of_ble_eq_true rfl), (Nat.le_of_ble_eq_true rfl)⟩, (Nat.le_of_ble_eq_true rfl), (Nat.le_of_ble_eq_true rfl)⟩ rfl (Nat.le_of_ble_eq_true rfl) dX11_round_36 (fun k9 hk9 => (inrl hk9).elim) (fun vr hv H locs hs => ?_)
              obtain rfl := Sum.inr.inj hv
              refine W.eq (g2 := F0 m 39 ls [.ref p13]) rfl ?_
              refine W.widen (k := 0) (n := 0) (Nat.le_of_ble_eq_true rfl) (Nat.le_of_ble_eq_true rfl) ?_
              refine lv_iload_n C.1 C.2.1 dX11_round_39 rfl (lv_at hl 2 rfl) ?_
              refine lv_iload_n C.1 C.2.1 dX11_round_40 rfl (lv_at hl 3 rfl) ?_
              replace h := ob h; obtain ⟨⟨⟩, i16, h⟩ := h
              replace h := ob3 h; obtain ⟨u20, τ18, y19, ep17, h⟩ := h
              rcases u20 with j21 | p17
              · replace h := bsl h
                cases h
                refine sx_xcallV (As := [.int v2, .int v3]) (rest := []) C hs (c_X10_toDigits hfl ep17) mo_X10_toDigits q739 i16 rfl rfl hl.1 ⟨⟨(Nat.le_of_ble_eq_true rfl), (Nat.le_of_ble_eq_true rfl)⟩, (Nat.le_of_ble_eq_true rfl), (Nat.le_of_ble_eq_true rfl)⟩ rfl (Nat.le_of_ble_eq_true rfl) dX11_round_41 (fun k9 hk9 ce q9 H locs a1 a2 a3 a4 a5 a6 => ?_) (fun vr hv => (inlr hv).elim)
                obtain rfl := Sum.inl.inj hk9
                exact sx_out C ht a1 a2 a3 a4 a5 a6 (Nat.le_of_ble_eq_true rfl) (Nat.le_of_ble_eq_true rfl)
              · replace h := bsr h
                refine sx_xcallV (As := [.int v2, .int v3]) (rest := []) C hs (c_X10_toDigits hfl ep17) mo_X10_toDigits q739 i16 rfl rfl hl.1 ⟨⟨(Nat.le_of_ble_eq_true rfl), (Nat.le_of_ble_eq_true rfl)⟩, (Nat.le_of_ble_eq_true rfl), (Nat.le_of_ble_eq_true rfl)⟩ rfl (Nat.le_of_ble_eq_true rfl) dX11_round_41 (fun k9 hk9 => (inrl hk9).elim) (fun vr hv H locs hs => ?_)
                obtain rfl := Sum.inr.inj hv
                refine W.eq (g2 := F0 m 44 ls [.ref p17]) rfl ?_
                refine W.widen (k := 1) (n := 6) (Nat.le_of_ble_eq_true rfl) (Nat.le_of_ble_eq_true rfl) ?_
                refine lv_astore (lv' := [(5, .ref p17), (0, .ref a0), (1, .int v1), (2, .int v2), (3, .int v3), (4, .int v4)]) C.1 C.2.1 dX11_round_44 hl (by decide) rfl (fun ls hl => ?_)
                refine lv_aload_n C.1 C.2.1 dX11_round_46 rfl (lv_at hl 1 rfl) ?_
                replace h := ob h; obtain ⟨p22, ep22, h⟩ := h
                refine sx_getV C hs fo_X11_11 (gR_v ep22) dX11_round_47 ?_
                refine lv_iload C.1 C.2.1 dX11_round_50 (lv_at hl 5 rfl) ?_
                refine lv_aload C.1 C.2.1 dX11_round_52 (lv_at hl 0 rfl) ?_
                replace h := ob h; obtain ⟨τ23, eτ23, h⟩ := h
                refine sx_aast (r := (RX10, TX10, 2)) C hs (by decide) rfl rfl eτ23 dX11_round_54 (fun H locs hs => ?_)
                refine lv_aload C.1 C.2.1 dX11_round_55 (lv_at hl 0 rfl) ?_
                replace h := ob h; obtain ⟨x24, ex24, h⟩ := h
                refine sx_getV C hs fo_X11_120 (gI_v ex24) dX11_round_57 ?_
                cases h
                exact sx_iretX C hs hr rfl dX11_round_60
        · replace h := iN c8 h
          cases h
          exact sx_throw C hfl hs to_X11_81_160 ht hl.1 dX11_round_20 dX11_round_23 dX11_round_24 dX11_round_26 dX11_round_29 ⟨by decide, (Nat.le_of_ble_eq_true rfl), (Nat.le_of_ble_eq_true rfl), (Nat.le_of_ble_eq_true rfl)⟩ ⟨(Nat.le_of_ble_eq_true rfl), (Nat.le_of_ble_eq_true rfl)⟩
def f_X11_divide (N : Nat) (σ : Sto) (sz : Nat) (a0 : Nat) (v1 : Int32) (v2 : Int32) (v3 : Int32) (v4 : Int32) (v5 : Int32) : Option ((Nat ⊕ Int32) × Sto × Nat) :=
 (f_X11_checkShelf v1).bind fun u2 =>
 bs u2 (fun j3 => some (.inl j3, σ, sz)) fun x1 =>
 (f_X11_checkShelf v2).bind fun u5 =>
 bs u5 (fun j6 => some (.inl j6, σ, sz)) fun x4 =>
 (f_X11_checkShelf v5).bind fun u8 =>
 bs u8 (fun j9 => some (.inl j9, σ, sz)) fun x7 =>
 (f_X11_checkScale v3).bind fun u11 =>
 bs u11 (fun j12 => some (.inl j12, σ, sz)) fun x10 =>
 (f_X11_checkMode v4).bind fun u14 =>
 bs u14 (fun j15 => some (.inl j15, σ, sz)) fun x13 =>
 (isO σ a0 10).bind fun _ =>
 (f_X11_valueOn σ a0 v1).bind fun u18 =>
 bs u18 (fun j19 => some (.inl j19, σ, sz)) fun p17 =>
 (f_X11_valueOn σ a0 v2).bind fun u21 =>
 bs u21 (fun j22 => some (.inl j22, σ, sz)) fun p20 =>
 (isO σ p17 9).bind fun _ =>
 b3 (f_X10_over N σ sz p17 p20 v3 v4) fun u27 τ25 y26 =>
 bs u27 (fun j28 => some (.inl j28, τ25, y26)) fun p24 =>
 (gR τ25 a0 10 0).bind fun p29 =>
 (sQ τ25 p29 4 v5 p24).bind fun τ30 =>
 (isO τ30 p24 9).bind fun _ =>
 (f_X10_digits N τ30 p24).bind fun x32 =>
 some (.inr x32, τ30, y26)
set_option maxHeartbeats 4000000 in
set_option maxRecDepth 100000 in
theorem c_X11_divide {l : Launch} (hfl : l.stackTraces = false) {g : PP} {N : Nat} {σ : Sto} {sz : Nat} {a0 : Nat} {v1 : Int32} {v2 : Int32} {v3 : Int32} {v4 : Int32} {v5 : Int32} {r9 : Nat ⊕ Int32} {σ9 : Sto} {sz9 : Nat} (h : f_X11_divide N σ sz a0 v1 v2 v3 v4 v5 = some (r9, σ9, sz9)) : vx_Met l yX11_divide [Cond.code yX11_divide cX11_divide 7 (some .int)] (rmk 9 2 9 175) (Pre g σ sz [.ref a0, .int v1, .int v2, .int v3, .int v4, .int v5]) (PstX g (Sum.map id vI r9) σ9 sz9) (XpX g (Sum.map id vI r9) σ9 sz9) 2 9 (Aw g) := by
  refine vx_ofW (cc := cX11_divide) (maxL := 7) (ret := (some .int)) (by decide) rfl ?_
  intro p e s m args below meth c s₁ B hml ht hv
  obtain ⟨rfl, C, hs⟩ := ctx_of B hml hv
  have C : Cx g p s m meth c cX11_divide 7 "Tillhouse" := C
  have hr := B.returns
  have hl := lv_entry ([.ref a0, .int v1, .int v2, .int v3, .int v4, .int v5]) (n := 7) (Nat.le_of_ble_eq_true rfl)
  rw [lg_entry_eq]
  generalize (lg_sl ([.ref a0, .int v1, .int v2, .int v3, .int v4, .int v5]) ++ List.replicate (7 - (lg_sl ([.ref a0, .int v1, .int v2, .int v3, .int v4, .int v5])).length) Slot.unset).toArray = ls at hl ⊢
  have hl : lv_has ls 7 [(0, .ref a0), (1, .int v1), (2, .int v2), (3, .int v3), (4, .int v4), (5, .int v5)] := hl
  unfold f_X11_divide at h
  refine lv_iload_n C.1 C.2.1 dX11_divide_0 rfl (lv_at hl 1 rfl) ?_
  replace h := ob h; obtain ⟨u2, ex1, h⟩ := h
  rcases u2 with j3 | x1
  · replace h := bsl h
    cases h
    refine sx_xcallS (As := [.int v1]) (rest := []) C hs (c_X11_checkShelf hfl ex1) mo_X11_checkShelf q424 rfl hl.1 ⟨⟨(Nat.le_of_ble_eq_true rfl), (Nat.le_of_ble_eq_true rfl)⟩, (Nat.le_of_ble_eq_true rfl), (Nat.le_of_ble_eq_true rfl)⟩ rfl (Nat.le_of_ble_eq_true rfl) dX11_divide_1 (fun k9 hk9 ce q9 H locs a1 a2 a3 a4 a5 a6 => ?_) (fun vr hv => (inlr hv).elim)
    obtain rfl := Sum.inl.inj hk9
    exact sx_out C ht a1 a2 a3 a4 a5 a6 (Nat.le_of_ble_eq_true rfl) (Nat.le_of_ble_eq_true rfl)
  · replace h := bsr h
    refine sx_xcallS (As := [.int v1]) (rest := []) C hs (c_X11_checkShelf hfl ex1) mo_X11_checkShelf q424 rfl hl.1 ⟨⟨(Nat.le_of_ble_eq_true rfl), (Nat.le_of_ble_eq_true rfl)⟩, (Nat.le_of_ble_eq_true rfl), (Nat.le_of_ble_eq_true rfl)⟩ rfl (Nat.le_of_ble_eq_true rfl) dX11_divide_1 (fun k9 hk9 => (inrl hk9).elim) (fun vr hv H locs hs => ?_)
    obtain rfl := Sum.inr.inj hv
    refine W.eq (g2 := F0 m 4 ls []) rfl ?_
    refine W.widen (k := 0) (n := 0) (Nat.le_of_ble_eq_true rfl) (Nat.le_of_ble_eq_true rfl) ?_
    refine lv_iload_n C.1 C.2.1 dX11_divide_4 rfl (lv_at hl 2 rfl) ?_
    replace h := ob h; obtain ⟨u5, ex4, h⟩ := h
    rcases u5 with j6 | x4
    · replace h := bsl h
      cases h
      refine sx_xcallS (As := [.int v2]) (rest := []) C hs (c_X11_checkShelf hfl ex4) mo_X11_checkShelf q424 rfl hl.1 ⟨⟨(Nat.le_of_ble_eq_true rfl), (Nat.le_of_ble_eq_true rfl)⟩, (Nat.le_of_ble_eq_true rfl), (Nat.le_of_ble_eq_true rfl)⟩ rfl (Nat.le_of_ble_eq_true rfl) dX11_divide_5 (fun k9 hk9 ce q9 H locs a1 a2 a3 a4 a5 a6 => ?_) (fun vr hv => (inlr hv).elim)
      obtain rfl := Sum.inl.inj hk9
      exact sx_out C ht a1 a2 a3 a4 a5 a6 (Nat.le_of_ble_eq_true rfl) (Nat.le_of_ble_eq_true rfl)
    · replace h := bsr h
      refine sx_xcallS (As := [.int v2]) (rest := []) C hs (c_X11_checkShelf hfl ex4) mo_X11_checkShelf q424 rfl hl.1 ⟨⟨(Nat.le_of_ble_eq_true rfl), (Nat.le_of_ble_eq_true rfl)⟩, (Nat.le_of_ble_eq_true rfl), (Nat.le_of_ble_eq_true rfl)⟩ rfl (Nat.le_of_ble_eq_true rfl) dX11_divide_5 (fun k9 hk9 => (inrl hk9).elim) (fun vr hv H locs hs => ?_)
      obtain rfl := Sum.inr.inj hv
      refine W.eq (g2 := F0 m 8 ls []) rfl ?_
      refine W.widen (k := 0) (n := 0) (Nat.le_of_ble_eq_true rfl) (Nat.le_of_ble_eq_true rfl) ?_
      refine lv_iload C.1 C.2.1 dX11_divide_8 (lv_at hl 5 rfl) ?_
      replace h := ob h; obtain ⟨u8, ex7, h⟩ := h
      rcases u8 with j9 | x7
      · replace h := bsl h
        cases h
        refine sx_xcallS (As := [.int v5]) (rest := []) C hs (c_X11_checkShelf hfl ex7) mo_X11_checkShelf q424 rfl hl.1 ⟨⟨(Nat.le_of_ble_eq_true rfl), (Nat.le_of_ble_eq_true rfl)⟩, (Nat.le_of_ble_eq_true rfl), (Nat.le_of_ble_eq_true rfl)⟩ rfl (Nat.le_of_ble_eq_true rfl) dX11_divide_10 (fun k9 hk9 ce q9 H locs a1 a2 a3 a4 a5 a6 => ?_) (fun vr hv => (inlr hv).elim)
        obtain rfl := Sum.inl.inj hk9
        exact sx_out C ht a1 a2 a3 a4 a5 a6 (Nat.le_of_ble_eq_true rfl) (Nat.le_of_ble_eq_true rfl)
      · replace h := bsr h
        refine sx_xcallS (As := [.int v5]) (rest := []) C hs (c_X11_checkShelf hfl ex7) mo_X11_checkShelf q424 rfl hl.1 ⟨⟨(Nat.le_of_ble_eq_true rfl), (Nat.le_of_ble_eq_true rfl)⟩, (Nat.le_of_ble_eq_true rfl), (Nat.le_of_ble_eq_true rfl)⟩ rfl (Nat.le_of_ble_eq_true rfl) dX11_divide_10 (fun k9 hk9 => (inrl hk9).elim) (fun vr hv H locs hs => ?_)
        obtain rfl := Sum.inr.inj hv
        refine W.eq (g2 := F0 m 13 ls []) rfl ?_
        refine W.widen (k := 0) (n := 0) (Nat.le_of_ble_eq_true rfl) (Nat.le_of_ble_eq_true rfl) ?_
        refine lv_iload_n C.1 C.2.1 dX11_divide_13 rfl (lv_at hl 3 rfl) ?_
        replace h := ob h; obtain ⟨u11, ex10, h⟩ := h
        rcases u11 with j12 | x10
        · replace h := bsl h
          cases h
          refine sx_xcallS (As := [.int v3]) (rest := []) C hs (c_X11_checkScale hfl ex10) mo_X11_checkScale q697 rfl hl.1 ⟨⟨(Nat.le_of_ble_eq_true rfl), (Nat.le_of_ble_eq_true rfl)⟩, (Nat.le_of_ble_eq_true rfl), (Nat.le_of_ble_eq_true rfl)⟩ rfl (Nat.le_of_ble_eq_true rfl) dX11_divide_14 (fun k9 hk9 ce q9 H locs a1 a2 a3 a4 a5 a6 => ?_) (fun vr hv => (inlr hv).elim)
          obtain rfl := Sum.inl.inj hk9
          exact sx_out C ht a1 a2 a3 a4 a5 a6 (Nat.le_of_ble_eq_true rfl) (Nat.le_of_ble_eq_true rfl)
        · replace h := bsr h
          refine sx_xcallS (As := [.int v3]) (rest := []) C hs (c_X11_checkScale hfl ex10) mo_X11_checkScale q697 rfl hl.1 ⟨⟨(Nat.le_of_ble_eq_true rfl), (Nat.le_of_ble_eq_true rfl)⟩, (Nat.le_of_ble_eq_true rfl), (Nat.le_of_ble_eq_true rfl)⟩ rfl (Nat.le_of_ble_eq_true rfl) dX11_divide_14 (fun k9 hk9 => (inrl hk9).elim) (fun vr hv H locs hs => ?_)
          obtain rfl := Sum.inr.inj hv
          refine W.eq (g2 := F0 m 17 ls []) rfl ?_
          refine W.widen (k := 0) (n := 0) (Nat.le_of_ble_eq_true rfl) (Nat.le_of_ble_eq_true rfl) ?_
          refine lv_iload C.1 C.2.1 dX11_divide_17 (lv_at hl 4 rfl) ?_
          replace h := ob h; obtain ⟨u14, ex13, h⟩ := h
          rcases u14 with j15 | x13
          · replace h := bsl h
            cases h
            refine sx_xcallS (As := [.int v4]) (rest := []) C hs (c_X11_checkMode hfl ex13) mo_X11_checkMode q701 rfl hl.1 ⟨⟨(Nat.le_of_ble_eq_true rfl), (Nat.le_of_ble_eq_true rfl)⟩, (Nat.le_of_ble_eq_true rfl), (Nat.le_of_ble_eq_true rfl)⟩ rfl (Nat.le_of_ble_eq_true rfl) dX11_divide_19 (fun k9 hk9 ce q9 H locs a1 a2 a3 a4 a5 a6 => ?_) (fun vr hv => (inlr hv).elim)
            obtain rfl := Sum.inl.inj hk9
            exact sx_out C ht a1 a2 a3 a4 a5 a6 (Nat.le_of_ble_eq_true rfl) (Nat.le_of_ble_eq_true rfl)
          · replace h := bsr h
            refine sx_xcallS (As := [.int v4]) (rest := []) C hs (c_X11_checkMode hfl ex13) mo_X11_checkMode q701 rfl hl.1 ⟨⟨(Nat.le_of_ble_eq_true rfl), (Nat.le_of_ble_eq_true rfl)⟩, (Nat.le_of_ble_eq_true rfl), (Nat.le_of_ble_eq_true rfl)⟩ rfl (Nat.le_of_ble_eq_true rfl) dX11_divide_19 (fun k9 hk9 => (inrl hk9).elim) (fun vr hv H locs hs => ?_)
            obtain rfl := Sum.inr.inj hv
            refine W.eq (g2 := F0 m 22 ls []) rfl ?_
            refine W.widen (k := 0) (n := 0) (Nat.le_of_ble_eq_true rfl) (Nat.le_of_ble_eq_true rfl) ?_
            refine lv_aload_n C.1 C.2.1 dX11_divide_22 rfl (lv_at hl 0 rfl) ?_
            refine lv_iload_n C.1 C.2.1 dX11_divide_23 rfl (lv_at hl 1 rfl) ?_
            replace h := ob h; obtain ⟨⟨⟩, i16, h⟩ := h
            replace h := ob h; obtain ⟨u18, ep17, h⟩ := h
            rcases u18 with j19 | p17
            · replace h := bsl h
              cases h
              refine sx_xcallV (As := [.int v1]) (rest := []) C hs (c_X11_valueOn hfl ep17) mo_X11_valueOn q574 i16 rfl rfl hl.1 ⟨⟨(Nat.le_of_ble_eq_true rfl), (Nat.le_of_ble_eq_true rfl)⟩, (Nat.le_of_ble_eq_true rfl), (Nat.le_of_ble_eq_true rfl)⟩ rfl (Nat.le_of_ble_eq_true rfl) dX11_divide_24 (fun k9 hk9 ce q9 H locs a1 a2 a3 a4 a5 a6 => ?_) (fun vr hv => (inlr hv).elim)
              obtain rfl := Sum.inl.inj hk9
              exact sx_out C ht a1 a2 a3 a4 a5 a6 (Nat.le_of_ble_eq_true rfl) (Nat.le_of_ble_eq_true rfl)
            · replace h := bsr h
              refine sx_xcallV (As := [.int v1]) (rest := []) C hs (c_X11_valueOn hfl ep17) mo_X11_valueOn q574 i16 rfl rfl hl.1 ⟨⟨(Nat.le_of_ble_eq_true rfl), (Nat.le_of_ble_eq_true rfl)⟩, (Nat.le_of_ble_eq_true rfl), (Nat.le_of_ble_eq_true rfl)⟩ rfl (Nat.le_of_ble_eq_true rfl) dX11_divide_24 (fun k9 hk9 => (inrl hk9).elim) (fun vr hv H locs hs => ?_)
              obtain rfl := Sum.inr.inj hv
              refine W.eq (g2 := F0 m 27 ls [.ref p17]) rfl ?_
              refine W.widen (k := 0) (n := 0) (Nat.le_of_ble_eq_true rfl) (Nat.le_of_ble_eq_true rfl) ?_
              refine lv_aload_n C.1 C.2.1 dX11_divide_27 rfl (lv_at hl 0 rfl) ?_
              refine lv_iload_n C.1 C.2.1 dX11_divide_28 rfl (lv_at hl 2 rfl) ?_
              replace h := ob h; obtain ⟨u21, ep20, h⟩ := h
              rcases u21 with j22 | p20
              · replace h := bsl h
                cases h
                refine sx_xcallV (As := [.int v2]) (rest := [.ref p17]) C hs (c_X11_valueOn hfl ep20) mo_X11_valueOn q574 i16 rfl rfl hl.1 ⟨⟨(Nat.le_of_ble_eq_true rfl), (Nat.le_of_ble_eq_true rfl)⟩, (Nat.le_of_ble_eq_true rfl), (Nat.le_of_ble_eq_true rfl)⟩ rfl (Nat.le_of_ble_eq_true rfl) dX11_divide_29 (fun k9 hk9 ce q9 H locs a1 a2 a3 a4 a5 a6 => ?_) (fun vr hv => (inlr hv).elim)
                obtain rfl := Sum.inl.inj hk9
                exact sx_out C ht a1 a2 a3 a4 a5 a6 (Nat.le_of_ble_eq_true rfl) (Nat.le_of_ble_eq_true rfl)
              · replace h := bsr h
                refine sx_xcallV (As := [.int v2]) (rest := [.ref p17]) C hs (c_X11_valueOn hfl ep20) mo_X11_valueOn q574 i16 rfl rfl hl.1 ⟨⟨(Nat.le_of_ble_eq_true rfl), (Nat.le_of_ble_eq_true rfl)⟩, (Nat.le_of_ble_eq_true rfl), (Nat.le_of_ble_eq_true rfl)⟩ rfl (Nat.le_of_ble_eq_true rfl) dX11_divide_29 (fun k9 hk9 => (inrl hk9).elim) (fun vr hv H locs hs => ?_)
                obtain rfl := Sum.inr.inj hv
                refine W.eq (g2 := F0 m 32 ls [.ref p20, .ref p17]) rfl ?_
                refine W.widen (k := 0) (n := 0) (Nat.le_of_ble_eq_true rfl) (Nat.le_of_ble_eq_true rfl) ?_
                refine lv_iload_n C.1 C.2.1 dX11_divide_32 rfl (lv_at hl 3 rfl) ?_
                refine lv_iload C.1 C.2.1 dX11_divide_33 (lv_at hl 4 rfl) ?_
                replace h := ob h; obtain ⟨⟨⟩, i23, h⟩ := h
                replace h := ob3 h; obtain ⟨u27, τ25, y26, ep24, h⟩ := h
                rcases u27 with j28 | p24
                · replace h := bsl h
                  cases h
                  refine sx_xcallV (As := [.ref p20, .int v3, .int v4]) (rest := []) C hs (c_X10_over hfl ep24) mo_X10_over q750 i23 rfl rfl hl.1 ⟨⟨(Nat.le_of_ble_eq_true rfl), (Nat.le_of_ble_eq_true rfl)⟩, (Nat.le_of_ble_eq_true rfl), (Nat.le_of_ble_eq_true rfl)⟩ rfl (Nat.le_of_ble_eq_true rfl) dX11_divide_35 (fun k9 hk9 ce q9 H locs a1 a2 a3 a4 a5 a6 => ?_) (fun vr hv => (inlr hv).elim)
                  obtain rfl := Sum.inl.inj hk9
                  exact sx_out C ht a1 a2 a3 a4 a5 a6 (Nat.le_of_ble_eq_true rfl) (Nat.le_of_ble_eq_true rfl)
                · replace h := bsr h
                  refine sx_xcallV (As := [.ref p20, .int v3, .int v4]) (rest := []) C hs (c_X10_over hfl ep24) mo_X10_over q750 i23 rfl rfl hl.1 ⟨⟨(Nat.le_of_ble_eq_true rfl), (Nat.le_of_ble_eq_true rfl)⟩, (Nat.le_of_ble_eq_true rfl), (Nat.le_of_ble_eq_true rfl)⟩ rfl (Nat.le_of_ble_eq_true rfl) dX11_divide_35 (fun k9 hk9 => (inrl hk9).elim) (fun vr hv H locs hs => ?_)
                  obtain rfl := Sum.inr.inj hv
                  refine W.eq (g2 := F0 m 38 ls [.ref p24]) rfl ?_
                  refine W.widen (k := 2) (n := 9) (Nat.le_of_ble_eq_true rfl) (Nat.le_of_ble_eq_true rfl) ?_
                  refine lv_astore (lv' := [(6, .ref p24), (0, .ref a0), (1, .int v1), (2, .int v2), (3, .int v3), (4, .int v4), (5, .int v5)]) C.1 C.2.1 dX11_divide_38 hl (by decide) rfl (fun ls hl => ?_)
                  refine lv_aload_n C.1 C.2.1 dX11_divide_40 rfl (lv_at hl 1 rfl) ?_
                  replace h := ob h; obtain ⟨p29, ep29, h⟩ := h
                  refine sx_getV C hs fo_X11_11 (gR_v ep29) dX11_divide_41 ?_
                  refine lv_iload C.1 C.2.1 dX11_divide_44 (lv_at hl 6 rfl) ?_
                  refine lv_aload C.1 C.2.1 dX11_divide_46 (lv_at hl 0 rfl) ?_
                  replace h := ob h; obtain ⟨τ30, eτ30, h⟩ := h
                  refine sx_aast (r := (RX10, TX10, 2)) C hs (by decide) rfl rfl eτ30 dX11_divide_48 (fun H locs hs => ?_)
                  refine lv_aload C.1 C.2.1 dX11_divide_49 (lv_at hl 0 rfl) ?_
                  replace h := ob h; obtain ⟨⟨⟩, i31, h⟩ := h
                  replace h := ob h; obtain ⟨x32, ex32, h⟩ := h
                  refine sx_callV (As := []) (rest := []) C hs (c_X10_digits ex32) mo_X10_digits q475 i31 rfl rfl hl.1 ⟨⟨(Nat.le_of_ble_eq_true rfl), (Nat.le_of_ble_eq_true rfl)⟩, (Nat.le_of_ble_eq_true rfl), (Nat.le_of_ble_eq_true rfl)⟩ rfl (Nat.le_of_ble_eq_true rfl) dX11_divide_51 (fun H locs hs => ?_)
                  refine W.eq (g2 := F0 m 54 ls [.int x32]) rfl ?_
                  cases h
                  exact sx_iretX C hs hr rfl dX11_divide_54
def f_X11_divideExactly (N : Nat) (σ : Sto) (sz : Nat) (a0 : Nat) (v1 : Int32) (v2 : Int32) (v3 : Int32) : Option ((Nat ⊕ Int32) × Sto × Nat) :=
 (f_X11_checkShelf v1).bind fun u2 =>
 bs u2 (fun j3 => some (.inl j3, σ, sz)) fun x1 =>
 (f_X11_checkShelf v2).bind fun u5 =>
 bs u5 (fun j6 => some (.inl j6, σ, sz)) fun x4 =>
 (f_X11_checkShelf v3).bind fun u8 =>
 bs u8 (fun j9 => some (.inl j9, σ, sz)) fun x7 =>
 (isO σ a0 10).bind fun _ =>
 (f_X11_valueOn σ a0 v1).bind fun u12 =>
 bs u12 (fun j13 => some (.inl j13, σ, sz)) fun p11 =>
 (f_X11_valueOn σ a0 v2).bind fun u15 =>
 bs u15 (fun j16 => some (.inl j16, σ, sz)) fun p14 =>
 (isO σ p11 9).bind fun _ =>
 b3 (f_X10_exactlyOver N σ sz p11 p14) fun u21 τ19 y20 =>
 bs u21 (fun j22 => some (.inl j22, τ19, y20)) fun p18 =>
 (gR τ19 a0 10 0).bind fun p23 =>
 (sQ τ19 p23 4 v3 p18).bind fun τ24 =>
 (gI τ24 p18 9 1).bind fun x25 =>
 some (.inr x25, τ24, y20)
set_option maxHeartbeats 4000000 in
set_option maxRecDepth 100000 in
theorem c_X11_divideExactly {l : Launch} (hfl : l.stackTraces = false) {g : PP} {N : Nat} {σ : Sto} {sz : Nat} {a0 : Nat} {v1 : Int32} {v2 : Int32} {v3 : Int32} {r9 : Nat ⊕ Int32} {σ9 : Sto} {sz9 : Nat} (h : f_X11_divideExactly N σ sz a0 v1 v2 v3 = some (r9, σ9, sz9)) : vx_Met l yX11_divideExactly [Cond.code yX11_divideExactly cX11_divideExactly 5 (some .int)] (rmk 9 2 9 168) (Pre g σ sz [.ref a0, .int v1, .int v2, .int v3]) (PstX g (Sum.map id vI r9) σ9 sz9) (XpX g (Sum.map id vI r9) σ9 sz9) 2 9 (Aw g) := by
  refine vx_ofW (cc := cX11_divideExactly) (maxL := 5) (ret := (some .int)) (by decide) rfl ?_
  intro p e s m args below meth c s₁ B hml ht hv
  obtain ⟨rfl, C, hs⟩ := ctx_of B hml hv
  have C : Cx g p s m meth c cX11_divideExactly 5 "Tillhouse" := C
  have hr := B.returns
  have hl := lv_entry ([.ref a0, .int v1, .int v2, .int v3]) (n := 5) (Nat.le_of_ble_eq_true rfl)
  rw [lg_entry_eq]
  generalize (lg_sl ([.ref a0, .int v1, .int v2, .int v3]) ++ List.replicate (5 - (lg_sl ([.ref a0, .int v1, .int v2, .int v3])).length) Slot.unset).toArray = ls at hl ⊢
  have hl : lv_has ls 5 [(0, .ref a0), (1, .int v1), (2, .int v2), (3, .int v3)] := hl
  unfold f_X11_divideExactly at h
  refine lv_iload_n C.1 C.2.1 dX11_divideExactly_0 rfl (lv_at hl 1 rfl) ?_
  replace h := ob h; obtain ⟨u2, ex1, h⟩ := h
  rcases u2 with j3 | x1
  · replace h := bsl h
    cases h
    refine sx_xcallS (As := [.int v1]) (rest := []) C hs (c_X11_checkShelf hfl ex1) mo_X11_checkShelf q424 rfl hl.1 ⟨⟨(Nat.le_of_ble_eq_true rfl), (Nat.le_of_ble_eq_true rfl)⟩, (Nat.le_of_ble_eq_true rfl), (Nat.le_of_ble_eq_true rfl)⟩ rfl (Nat.le_of_ble_eq_true rfl) dX11_divideExactly_1 (fun k9 hk9 ce q9 H locs a1 a2 a3 a4 a5 a6 => ?_) (fun vr hv => (inlr hv).elim)
    obtain rfl := Sum.inl.inj hk9
    exact sx_out C ht a1 a2 a3 a4 a5 a6 (Nat.le_of_ble_eq_true rfl) (Nat.le_of_ble_eq_true rfl)
  · replace h := bsr h
    refine sx_xcallS (As := [.int v1]) (rest := []) C hs (c_X11_checkShelf hfl ex1) mo_X11_checkShelf q424 rfl hl.1 ⟨⟨(Nat.le_of_ble_eq_true rfl), (Nat.le_of_ble_eq_true rfl)⟩, (Nat.le_of_ble_eq_true rfl), (Nat.le_of_ble_eq_true rfl)⟩ rfl (Nat.le_of_ble_eq_true rfl) dX11_divideExactly_1 (fun k9 hk9 => (inrl hk9).elim) (fun vr hv H locs hs => ?_)
    obtain rfl := Sum.inr.inj hv
    refine W.eq (g2 := F0 m 4 ls []) rfl ?_
    refine W.widen (k := 0) (n := 0) (Nat.le_of_ble_eq_true rfl) (Nat.le_of_ble_eq_true rfl) ?_
    refine lv_iload_n C.1 C.2.1 dX11_divideExactly_4 rfl (lv_at hl 2 rfl) ?_
    replace h := ob h; obtain ⟨u5, ex4, h⟩ := h
    rcases u5 with j6 | x4
    · replace h := bsl h
      cases h
      refine sx_xcallS (As := [.int v2]) (rest := []) C hs (c_X11_checkShelf hfl ex4) mo_X11_checkShelf q424 rfl hl.1 ⟨⟨(Nat.le_of_ble_eq_true rfl), (Nat.le_of_ble_eq_true rfl)⟩, (Nat.le_of_ble_eq_true rfl), (Nat.le_of_ble_eq_true rfl)⟩ rfl (Nat.le_of_ble_eq_true rfl) dX11_divideExactly_5 (fun k9 hk9 ce q9 H locs a1 a2 a3 a4 a5 a6 => ?_) (fun vr hv => (inlr hv).elim)
      obtain rfl := Sum.inl.inj hk9
      exact sx_out C ht a1 a2 a3 a4 a5 a6 (Nat.le_of_ble_eq_true rfl) (Nat.le_of_ble_eq_true rfl)
    · replace h := bsr h
      refine sx_xcallS (As := [.int v2]) (rest := []) C hs (c_X11_checkShelf hfl ex4) mo_X11_checkShelf q424 rfl hl.1 ⟨⟨(Nat.le_of_ble_eq_true rfl), (Nat.le_of_ble_eq_true rfl)⟩, (Nat.le_of_ble_eq_true rfl), (Nat.le_of_ble_eq_true rfl)⟩ rfl (Nat.le_of_ble_eq_true rfl) dX11_divideExactly_5 (fun k9 hk9 => (inrl hk9).elim) (fun vr hv H locs hs => ?_)
      obtain rfl := Sum.inr.inj hv
      refine W.eq (g2 := F0 m 8 ls []) rfl ?_
      refine W.widen (k := 0) (n := 0) (Nat.le_of_ble_eq_true rfl) (Nat.le_of_ble_eq_true rfl) ?_
      refine lv_iload_n C.1 C.2.1 dX11_divideExactly_8 rfl (lv_at hl 3 rfl) ?_
      replace h := ob h; obtain ⟨u8, ex7, h⟩ := h
      rcases u8 with j9 | x7
      · replace h := bsl h
        cases h
        refine sx_xcallS (As := [.int v3]) (rest := []) C hs (c_X11_checkShelf hfl ex7) mo_X11_checkShelf q424 rfl hl.1 ⟨⟨(Nat.le_of_ble_eq_true rfl), (Nat.le_of_ble_eq_true rfl)⟩, (Nat.le_of_ble_eq_true rfl), (Nat.le_of_ble_eq_true rfl)⟩ rfl (Nat.le_of_ble_eq_true rfl) dX11_divideExactly_9 (fun k9 hk9 ce q9 H locs a1 a2 a3 a4 a5 a6 => ?_) (fun vr hv => (inlr hv).elim)
        obtain rfl := Sum.inl.inj hk9
        exact sx_out C ht a1 a2 a3 a4 a5 a6 (Nat.le_of_ble_eq_true rfl) (Nat.le_of_ble_eq_true rfl)
      · replace h := bsr h
        refine sx_xcallS (As := [.int v3]) (rest := []) C hs (c_X11_checkShelf hfl ex7) mo_X11_checkShelf q424 rfl hl.1 ⟨⟨(Nat.le_of_ble_eq_true rfl), (Nat.le_of_ble_eq_true rfl)⟩, (Nat.le_of_ble_eq_true rfl), (Nat.le_of_ble_eq_true rfl)⟩ rfl (Nat.le_of_ble_eq_true rfl) dX11_divideExactly_9 (fun k9 hk9 => (inrl hk9).elim) (fun vr hv H locs hs => ?_)
        obtain rfl := Sum.inr.inj hv
        refine W.eq (g2 := F0 m 12 ls []) rfl ?_
        refine W.widen (k := 0) (n := 0) (Nat.le_of_ble_eq_true rfl) (Nat.le_of_ble_eq_true rfl) ?_
        refine lv_aload_n C.1 C.2.1 dX11_divideExactly_12 rfl (lv_at hl 0 rfl) ?_
        refine lv_iload_n C.1 C.2.1 dX11_divideExactly_13 rfl (lv_at hl 1 rfl) ?_
        replace h := ob h; obtain ⟨⟨⟩, i10, h⟩ := h
        replace h := ob h; obtain ⟨u12, ep11, h⟩ := h
        rcases u12 with j13 | p11
        · replace h := bsl h
          cases h
          refine sx_xcallV (As := [.int v1]) (rest := []) C hs (c_X11_valueOn hfl ep11) mo_X11_valueOn q574 i10 rfl rfl hl.1 ⟨⟨(Nat.le_of_ble_eq_true rfl), (Nat.le_of_ble_eq_true rfl)⟩, (Nat.le_of_ble_eq_true rfl), (Nat.le_of_ble_eq_true rfl)⟩ rfl (Nat.le_of_ble_eq_true rfl) dX11_divideExactly_14 (fun k9 hk9 ce q9 H locs a1 a2 a3 a4 a5 a6 => ?_) (fun vr hv => (inlr hv).elim)
          obtain rfl := Sum.inl.inj hk9
          exact sx_out C ht a1 a2 a3 a4 a5 a6 (Nat.le_of_ble_eq_true rfl) (Nat.le_of_ble_eq_true rfl)
        · replace h := bsr h
          refine sx_xcallV (As := [.int v1]) (rest := []) C hs (c_X11_valueOn hfl ep11) mo_X11_valueOn q574 i10 rfl rfl hl.1 ⟨⟨(Nat.le_of_ble_eq_true rfl), (Nat.le_of_ble_eq_true rfl)⟩, (Nat.le_of_ble_eq_true rfl), (Nat.le_of_ble_eq_true rfl)⟩ rfl (Nat.le_of_ble_eq_true rfl) dX11_divideExactly_14 (fun k9 hk9 => (inrl hk9).elim) (fun vr hv H locs hs => ?_)
          obtain rfl := Sum.inr.inj hv
          refine W.eq (g2 := F0 m 17 ls [.ref p11]) rfl ?_
          refine W.widen (k := 0) (n := 0) (Nat.le_of_ble_eq_true rfl) (Nat.le_of_ble_eq_true rfl) ?_
          refine lv_aload_n C.1 C.2.1 dX11_divideExactly_17 rfl (lv_at hl 0 rfl) ?_
          refine lv_iload_n C.1 C.2.1 dX11_divideExactly_18 rfl (lv_at hl 2 rfl) ?_
          replace h := ob h; obtain ⟨u15, ep14, h⟩ := h
          rcases u15 with j16 | p14
          · replace h := bsl h
            cases h
            refine sx_xcallV (As := [.int v2]) (rest := [.ref p11]) C hs (c_X11_valueOn hfl ep14) mo_X11_valueOn q574 i10 rfl rfl hl.1 ⟨⟨(Nat.le_of_ble_eq_true rfl), (Nat.le_of_ble_eq_true rfl)⟩, (Nat.le_of_ble_eq_true rfl), (Nat.le_of_ble_eq_true rfl)⟩ rfl (Nat.le_of_ble_eq_true rfl) dX11_divideExactly_19 (fun k9 hk9 ce q9 H locs a1 a2 a3 a4 a5 a6 => ?_) (fun vr hv => (inlr hv).elim)
            obtain rfl := Sum.inl.inj hk9
            exact sx_out C ht a1 a2 a3 a4 a5 a6 (Nat.le_of_ble_eq_true rfl) (Nat.le_of_ble_eq_true rfl)
          · replace h := bsr h
            refine sx_xcallV (As := [.int v2]) (rest := [.ref p11]) C hs (c_X11_valueOn hfl ep14) mo_X11_valueOn q574 i10 rfl rfl hl.1 ⟨⟨(Nat.le_of_ble_eq_true rfl), (Nat.le_of_ble_eq_true rfl)⟩, (Nat.le_of_ble_eq_true rfl), (Nat.le_of_ble_eq_true rfl)⟩ rfl (Nat.le_of_ble_eq_true rfl) dX11_divideExactly_19 (fun k9 hk9 => (inrl hk9).elim) (fun vr hv H locs hs => ?_)
            obtain rfl := Sum.inr.inj hv
            refine W.eq (g2 := F0 m 22 ls [.ref p14, .ref p11]) rfl ?_
            refine W.widen (k := 0) (n := 0) (Nat.le_of_ble_eq_true rfl) (Nat.le_of_ble_eq_true rfl) ?_
            replace h := ob h; obtain ⟨⟨⟩, i17, h⟩ := h
            replace h := ob3 h; obtain ⟨u21, τ19, y20, ep18, h⟩ := h
            rcases u21 with j22 | p18
            · replace h := bsl h
              cases h
              refine sx_xcallV (As := [.ref p14]) (rest := []) C hs (c_X10_exactlyOver hfl ep18) mo_X10_exactlyOver q811 i17 rfl rfl hl.1 ⟨⟨(Nat.le_of_ble_eq_true rfl), (Nat.le_of_ble_eq_true rfl)⟩, (Nat.le_of_ble_eq_true rfl), (Nat.le_of_ble_eq_true rfl)⟩ rfl (Nat.le_of_ble_eq_true rfl) dX11_divideExactly_22 (fun k9 hk9 ce q9 H locs a1 a2 a3 a4 a5 a6 => ?_) (fun vr hv => (inlr hv).elim)
              obtain rfl := Sum.inl.inj hk9
              exact sx_out C ht a1 a2 a3 a4 a5 a6 (Nat.le_of_ble_eq_true rfl) (Nat.le_of_ble_eq_true rfl)
            · replace h := bsr h
              refine sx_xcallV (As := [.ref p14]) (rest := []) C hs (c_X10_exactlyOver hfl ep18) mo_X10_exactlyOver q811 i17 rfl rfl hl.1 ⟨⟨(Nat.le_of_ble_eq_true rfl), (Nat.le_of_ble_eq_true rfl)⟩, (Nat.le_of_ble_eq_true rfl), (Nat.le_of_ble_eq_true rfl)⟩ rfl (Nat.le_of_ble_eq_true rfl) dX11_divideExactly_22 (fun k9 hk9 => (inrl hk9).elim) (fun vr hv H locs hs => ?_)
              obtain rfl := Sum.inr.inj hv
              refine W.eq (g2 := F0 m 25 ls [.ref p18]) rfl ?_
              refine W.widen (k := 2) (n := 9) (Nat.le_of_ble_eq_true rfl) (Nat.le_of_ble_eq_true rfl) ?_
              refine lv_astore (lv' := [(4, .ref p18), (0, .ref a0), (1, .int v1), (2, .int v2), (3, .int v3)]) C.1 C.2.1 dX11_divideExactly_25 hl (by decide) rfl (fun ls hl => ?_)
              refine lv_aload_n C.1 C.2.1 dX11_divideExactly_27 rfl (lv_at hl 1 rfl) ?_
              replace h := ob h; obtain ⟨p23, ep23, h⟩ := h
              refine sx_getV C hs fo_X11_11 (gR_v ep23) dX11_divideExactly_28 ?_
              refine lv_iload_n C.1 C.2.1 dX11_divideExactly_31 rfl (lv_at hl 4 rfl) ?_
              refine lv_aload C.1 C.2.1 dX11_divideExactly_32 (lv_at hl 0 rfl) ?_
              replace h := ob h; obtain ⟨τ24, eτ24, h⟩ := h
              refine sx_aast (r := (RX10, TX10, 2)) C hs (by decide) rfl rfl eτ24 dX11_divideExactly_34 (fun H locs hs => ?_)
              refine lv_aload C.1 C.2.1 dX11_divideExactly_35 (lv_at hl 0 rfl) ?_
              replace h := ob h; obtain ⟨x25, ex25, h⟩ := h
              refine sx_getV C hs fo_X11_120 (gI_v ex25) dX11_divideExactly_37 ?_
              cases h
              exact sx_iretX C hs hr rfl dX11_divideExactly_40
def f_X11_compare (N : Nat) (σ : Sto) (a0 : Nat) (v1 : Int32) (v2 : Int32) : Option ((Nat ⊕ Int32)) :=
 (f_X11_checkShelf v1).bind fun u2 =>
 bs u2 (fun j3 => some (.inl j3)) fun x1 =>
 (f_X11_checkShelf v2).bind fun u5 =>
 bs u5 (fun j6 => some (.inl j6)) fun x4 =>
 (isO σ a0 10).bind fun _ =>
 (f_X11_valueOn σ a0 v1).bind fun u9 =>
 bs u9 (fun j10 => some (.inl j10)) fun p8 =>
 (f_X11_valueOn σ a0 v2).bind fun u12 =>
 bs u12 (fun j13 => some (.inl j13)) fun p11 =>
 (isO σ p8 9).bind fun _ =>
 (f_X10_order N σ p8 p11).bind fun u16 =>
 bs u16 (fun j17 => some (.inl j17)) fun x15 =>
 some (.inr x15)
set_option maxHeartbeats 4000000 in
set_option maxRecDepth 100000 in
theorem c_X11_compare {l : Launch} (hfl : l.stackTraces = false) {g : PP} {N : Nat} {σ : Sto} {sz : Nat} {a0 : Nat} {v1 : Int32} {v2 : Int32} {r9 : Nat ⊕ Int32} (h : f_X11_compare N σ a0 v1 v2 = some r9) : vx_Met l yX11_compare [Cond.code yX11_compare cX11_compare 3 (some .int)] (rmk 10 (cX r9) (cY r9) 196) (Pre g σ sz [.ref a0, .int v1, .int v2]) (PstX g (Sum.map id vI r9) σ sz) (XpX g (Sum.map id vI r9) σ sz) (cX r9) (cY r9) (Aw g) := by
  refine vx_ofW (cc := cX11_compare) (maxL := 3) (ret := (some .int)) (by decide) rfl ?_
  intro p e s m args below meth c s₁ B hml ht hv
  obtain ⟨rfl, C, hs⟩ := ctx_of B hml hv
  have C : Cx g p s m meth c cX11_compare 3 "Tillhouse" := C
  have hr := B.returns
  have hl := lv_entry ([.ref a0, .int v1, .int v2]) (n := 3) (Nat.le_of_ble_eq_true rfl)
  rw [lg_entry_eq]
  generalize (lg_sl ([.ref a0, .int v1, .int v2]) ++ List.replicate (3 - (lg_sl ([.ref a0, .int v1, .int v2])).length) Slot.unset).toArray = ls at hl ⊢
  have hl : lv_has ls 3 [(0, .ref a0), (1, .int v1), (2, .int v2)] := hl
  unfold f_X11_compare at h
  refine lv_iload_n C.1 C.2.1 dX11_compare_0 rfl (lv_at hl 1 rfl) ?_
  replace h := ob h; obtain ⟨u2, ex1, h⟩ := h
  rcases u2 with j3 | x1
  · replace h := bsl h
    cases h
    refine sx_xcallS (As := [.int v1]) (rest := []) C hs (c_X11_checkShelf hfl ex1) mo_X11_checkShelf q424 rfl hl.1 ⟨⟨(Nat.le_of_ble_eq_true rfl), (Nat.le_of_ble_eq_true rfl)⟩, (Nat.le_of_ble_eq_true rfl), (Nat.le_of_ble_eq_true rfl)⟩ rfl (Nat.le_of_ble_eq_true rfl) dX11_compare_1 (fun k9 hk9 ce q9 H locs a1 a2 a3 a4 a5 a6 => ?_) (fun vr hv => (inlr hv).elim)
    obtain rfl := Sum.inl.inj hk9
    exact sx_out C ht a1 a2 a3 a4 a5 a6 (Nat.le_of_ble_eq_true rfl) (Nat.le_of_ble_eq_true rfl)
  · replace h := bsr h
    refine sx_xcallS (As := [.int v1]) (rest := []) C hs (c_X11_checkShelf hfl ex1) mo_X11_checkShelf q424 rfl hl.1 ⟨⟨(Nat.le_of_ble_eq_true rfl), (Nat.le_of_ble_eq_true rfl)⟩, (Nat.le_of_ble_eq_true rfl), (Nat.le_of_ble_eq_true rfl)⟩ rfl (Nat.le_of_ble_eq_true rfl) dX11_compare_1 (fun k9 hk9 => (inrl hk9).elim) (fun vr hv H locs hs => ?_)
    obtain rfl := Sum.inr.inj hv
    refine W.eq (g2 := F0 m 4 ls []) rfl ?_
    refine W.widen (k := 0) (n := 0) (Nat.le_of_ble_eq_true rfl) (Nat.le_of_ble_eq_true rfl) ?_
    refine lv_iload_n C.1 C.2.1 dX11_compare_4 rfl (lv_at hl 2 rfl) ?_
    replace h := ob h; obtain ⟨u5, ex4, h⟩ := h
    rcases u5 with j6 | x4
    · replace h := bsl h
      cases h
      refine sx_xcallS (As := [.int v2]) (rest := []) C hs (c_X11_checkShelf hfl ex4) mo_X11_checkShelf q424 rfl hl.1 ⟨⟨(Nat.le_of_ble_eq_true rfl), (Nat.le_of_ble_eq_true rfl)⟩, (Nat.le_of_ble_eq_true rfl), (Nat.le_of_ble_eq_true rfl)⟩ rfl (Nat.le_of_ble_eq_true rfl) dX11_compare_5 (fun k9 hk9 ce q9 H locs a1 a2 a3 a4 a5 a6 => ?_) (fun vr hv => (inlr hv).elim)
      obtain rfl := Sum.inl.inj hk9
      exact sx_out C ht a1 a2 a3 a4 a5 a6 (Nat.le_of_ble_eq_true rfl) (Nat.le_of_ble_eq_true rfl)
    · replace h := bsr h
      refine sx_xcallS (As := [.int v2]) (rest := []) C hs (c_X11_checkShelf hfl ex4) mo_X11_checkShelf q424 rfl hl.1 ⟨⟨(Nat.le_of_ble_eq_true rfl), (Nat.le_of_ble_eq_true rfl)⟩, (Nat.le_of_ble_eq_true rfl), (Nat.le_of_ble_eq_true rfl)⟩ rfl (Nat.le_of_ble_eq_true rfl) dX11_compare_5 (fun k9 hk9 => (inrl hk9).elim) (fun vr hv H locs hs => ?_)
      obtain rfl := Sum.inr.inj hv
      refine W.eq (g2 := F0 m 8 ls []) rfl ?_
      refine W.widen (k := 0) (n := 0) (Nat.le_of_ble_eq_true rfl) (Nat.le_of_ble_eq_true rfl) ?_
      refine lv_aload_n C.1 C.2.1 dX11_compare_8 rfl (lv_at hl 0 rfl) ?_
      refine lv_iload_n C.1 C.2.1 dX11_compare_9 rfl (lv_at hl 1 rfl) ?_
      replace h := ob h; obtain ⟨⟨⟩, i7, h⟩ := h
      replace h := ob h; obtain ⟨u9, ep8, h⟩ := h
      rcases u9 with j10 | p8
      · replace h := bsl h
        cases h
        refine sx_xcallV (As := [.int v1]) (rest := []) C hs (c_X11_valueOn hfl ep8) mo_X11_valueOn q574 i7 rfl rfl hl.1 ⟨⟨(Nat.le_of_ble_eq_true rfl), (Nat.le_of_ble_eq_true rfl)⟩, (Nat.le_of_ble_eq_true rfl), (Nat.le_of_ble_eq_true rfl)⟩ rfl (Nat.le_of_ble_eq_true rfl) dX11_compare_10 (fun k9 hk9 ce q9 H locs a1 a2 a3 a4 a5 a6 => ?_) (fun vr hv => (inlr hv).elim)
        obtain rfl := Sum.inl.inj hk9
        exact sx_out C ht a1 a2 a3 a4 a5 a6 (Nat.le_of_ble_eq_true rfl) (Nat.le_of_ble_eq_true rfl)
      · replace h := bsr h
        refine sx_xcallV (As := [.int v1]) (rest := []) C hs (c_X11_valueOn hfl ep8) mo_X11_valueOn q574 i7 rfl rfl hl.1 ⟨⟨(Nat.le_of_ble_eq_true rfl), (Nat.le_of_ble_eq_true rfl)⟩, (Nat.le_of_ble_eq_true rfl), (Nat.le_of_ble_eq_true rfl)⟩ rfl (Nat.le_of_ble_eq_true rfl) dX11_compare_10 (fun k9 hk9 => (inrl hk9).elim) (fun vr hv H locs hs => ?_)
        obtain rfl := Sum.inr.inj hv
        refine W.eq (g2 := F0 m 13 ls [.ref p8]) rfl ?_
        refine W.widen (k := 0) (n := 0) (Nat.le_of_ble_eq_true rfl) (Nat.le_of_ble_eq_true rfl) ?_
        refine lv_aload_n C.1 C.2.1 dX11_compare_13 rfl (lv_at hl 0 rfl) ?_
        refine lv_iload_n C.1 C.2.1 dX11_compare_14 rfl (lv_at hl 2 rfl) ?_
        replace h := ob h; obtain ⟨u12, ep11, h⟩ := h
        rcases u12 with j13 | p11
        · replace h := bsl h
          cases h
          refine sx_xcallV (As := [.int v2]) (rest := [.ref p8]) C hs (c_X11_valueOn hfl ep11) mo_X11_valueOn q574 i7 rfl rfl hl.1 ⟨⟨(Nat.le_of_ble_eq_true rfl), (Nat.le_of_ble_eq_true rfl)⟩, (Nat.le_of_ble_eq_true rfl), (Nat.le_of_ble_eq_true rfl)⟩ rfl (Nat.le_of_ble_eq_true rfl) dX11_compare_15 (fun k9 hk9 ce q9 H locs a1 a2 a3 a4 a5 a6 => ?_) (fun vr hv => (inlr hv).elim)
          obtain rfl := Sum.inl.inj hk9
          exact sx_out C ht a1 a2 a3 a4 a5 a6 (Nat.le_of_ble_eq_true rfl) (Nat.le_of_ble_eq_true rfl)
        · replace h := bsr h
          refine sx_xcallV (As := [.int v2]) (rest := [.ref p8]) C hs (c_X11_valueOn hfl ep11) mo_X11_valueOn q574 i7 rfl rfl hl.1 ⟨⟨(Nat.le_of_ble_eq_true rfl), (Nat.le_of_ble_eq_true rfl)⟩, (Nat.le_of_ble_eq_true rfl), (Nat.le_of_ble_eq_true rfl)⟩ rfl (Nat.le_of_ble_eq_true rfl) dX11_compare_15 (fun k9 hk9 => (inrl hk9).elim) (fun vr hv H locs hs => ?_)
          obtain rfl := Sum.inr.inj hv
          refine W.eq (g2 := F0 m 18 ls [.ref p11, .ref p8]) rfl ?_
          refine W.widen (k := 0) (n := 0) (Nat.le_of_ble_eq_true rfl) (Nat.le_of_ble_eq_true rfl) ?_
          replace h := ob h; obtain ⟨⟨⟩, i14, h⟩ := h
          replace h := ob h; obtain ⟨u16, ex15, h⟩ := h
          rcases u16 with j17 | x15
          · replace h := bsl h
            cases h
            refine sx_xcallV (As := [.ref p11]) (rest := []) C hs (c_X10_order hfl ex15) mo_X10_order q652 i14 rfl rfl hl.1 ⟨⟨(Nat.le_of_ble_eq_true rfl), (Nat.le_of_ble_eq_true rfl)⟩, (Nat.le_of_ble_eq_true rfl), (Nat.le_of_ble_eq_true rfl)⟩ rfl (Nat.le_of_ble_eq_true rfl) dX11_compare_18 (fun k9 hk9 ce q9 H locs a1 a2 a3 a4 a5 a6 => ?_) (fun vr hv => (inlr hv).elim)
            obtain rfl := Sum.inl.inj hk9
            exact sx_out C ht a1 a2 a3 a4 a5 a6 (Nat.le_of_ble_eq_true rfl) (Nat.le_of_ble_eq_true rfl)
          · replace h := bsr h
            refine sx_xcallV (As := [.ref p11]) (rest := []) C hs (c_X10_order hfl ex15) mo_X10_order q652 i14 rfl rfl hl.1 ⟨⟨(Nat.le_of_ble_eq_true rfl), (Nat.le_of_ble_eq_true rfl)⟩, (Nat.le_of_ble_eq_true rfl), (Nat.le_of_ble_eq_true rfl)⟩ rfl (Nat.le_of_ble_eq_true rfl) dX11_compare_18 (fun k9 hk9 => (inrl hk9).elim) (fun vr hv H locs hs => ?_)
            obtain rfl := Sum.inr.inj hv
            refine W.eq (g2 := F0 m 21 ls [.int x15]) rfl ?_
            refine W.widen (k := 0) (n := 0) (Nat.le_of_ble_eq_true rfl) (Nat.le_of_ble_eq_true rfl) ?_
            cases h
            exact sx_iretX C hs hr rfl dX11_compare_21
def f_X11_isEqual (σ : Sto) (a0 : Nat) (v1 : Int32) (v2 : Int32) : Option ((Nat ⊕ Int32)) :=
 (f_X11_checkShelf v1).bind fun u2 =>
 bs u2 (fun j3 => some (.inl j3)) fun x1 =>
 (f_X11_checkShelf v2).bind fun u5 =>
 bs u5 (fun j6 => some (.inl j6)) fun x4 =>
 (isO σ a0 10).bind fun _ =>
 (f_X11_valueOn σ a0 v1).bind fun u9 =>
 bs u9 (fun j10 => some (.inl j10)) fun p8 =>
 (f_X11_valueOn σ a0 v2).bind fun u12 =>
 bs u12 (fun j13 => some (.inl j13)) fun p11 =>
 (gL σ p8 9 0).bind fun x14 =>
 (gL σ p11 9 0).bind fun x15 =>
 if x14 = x15 then
 (gI σ p8 9 1).bind fun x17 =>
 (gI σ p11 9 1).bind fun x18 =>
 if x17 = x18 then
 some (.inr 1)
 else
 some (.inr 0)
 else
 some (.inr 0)
set_option maxHeartbeats 4000000 in
set_option maxRecDepth 100000 in
theorem c_X11_isEqual {l : Launch} (hfl : l.stackTraces = false) {g : PP} {σ : Sto} {sz : Nat} {a0 : Nat} {v1 : Int32} {v2 : Int32} {r9 : Nat ⊕ Int32} (h : f_X11_isEqual σ a0 v1 v2 = some r9) : vx_Met l yX11_isEqual [Cond.code yX11_isEqual cX11_isEqual 5 (some .boolean)] (rmk 7 (cX r9) (cY r9) 122) (Pre g σ sz [.ref a0, .int v1, .int v2]) (PstX g (Sum.map id vI r9) σ sz) (XpX g (Sum.map id vI r9) σ sz) (cX r9) (cY r9) (Aw g) := by
  refine vx_ofW (cc := cX11_isEqual) (maxL := 5) (ret := (some .boolean)) (by decide) rfl ?_
  intro p e s m args below meth c s₁ B hml ht hv
  obtain ⟨rfl, C, hs⟩ := ctx_of B hml hv
  have C : Cx g p s m meth c cX11_isEqual 5 "Tillhouse" := C
  have hr := B.returns
  have hl := lv_entry ([.ref a0, .int v1, .int v2]) (n := 5) (Nat.le_of_ble_eq_true rfl)
  rw [lg_entry_eq]
  generalize (lg_sl ([.ref a0, .int v1, .int v2]) ++ List.replicate (5 - (lg_sl ([.ref a0, .int v1, .int v2])).length) Slot.unset).toArray = ls at hl ⊢
  have hl : lv_has ls 5 [(0, .ref a0), (1, .int v1), (2, .int v2)] := hl
  unfold f_X11_isEqual at h
  refine lv_iload_n C.1 C.2.1 dX11_isEqual_0 rfl (lv_at hl 1 rfl) ?_
  replace h := ob h; obtain ⟨u2, ex1, h⟩ := h
  rcases u2 with j3 | x1
  · replace h := bsl h
    cases h
    refine sx_xcallS (As := [.int v1]) (rest := []) C hs (c_X11_checkShelf hfl ex1) mo_X11_checkShelf q424 rfl hl.1 ⟨⟨(Nat.le_of_ble_eq_true rfl), (Nat.le_of_ble_eq_true rfl)⟩, (Nat.le_of_ble_eq_true rfl), (Nat.le_of_ble_eq_true rfl)⟩ rfl (Nat.le_of_ble_eq_true rfl) dX11_isEqual_1 (fun k9 hk9 ce q9 H locs a1 a2 a3 a4 a5 a6 => ?_) (fun vr hv => (inlr hv).elim)
    obtain rfl := Sum.inl.inj hk9
    exact sx_out C ht a1 a2 a3 a4 a5 a6 (Nat.le_of_ble_eq_true rfl) (Nat.le_of_ble_eq_true rfl)
  · replace h := bsr h
    refine sx_xcallS (As := [.int v1]) (rest := []) C hs (c_X11_checkShelf hfl ex1) mo_X11_checkShelf q424 rfl hl.1 ⟨⟨(Nat.le_of_ble_eq_true rfl), (Nat.le_of_ble_eq_true rfl)⟩, (Nat.le_of_ble_eq_true rfl), (Nat.le_of_ble_eq_true rfl)⟩ rfl (Nat.le_of_ble_eq_true rfl) dX11_isEqual_1 (fun k9 hk9 => (inrl hk9).elim) (fun vr hv H locs hs => ?_)
    obtain rfl := Sum.inr.inj hv
    refine W.eq (g2 := F0 m 4 ls []) rfl ?_
    refine W.widen (k := 0) (n := 0) (Nat.le_of_ble_eq_true rfl) (Nat.le_of_ble_eq_true rfl) ?_
    refine lv_iload_n C.1 C.2.1 dX11_isEqual_4 rfl (lv_at hl 2 rfl) ?_
    replace h := ob h; obtain ⟨u5, ex4, h⟩ := h
    rcases u5 with j6 | x4
    · replace h := bsl h
      cases h
      refine sx_xcallS (As := [.int v2]) (rest := []) C hs (c_X11_checkShelf hfl ex4) mo_X11_checkShelf q424 rfl hl.1 ⟨⟨(Nat.le_of_ble_eq_true rfl), (Nat.le_of_ble_eq_true rfl)⟩, (Nat.le_of_ble_eq_true rfl), (Nat.le_of_ble_eq_true rfl)⟩ rfl (Nat.le_of_ble_eq_true rfl) dX11_isEqual_5 (fun k9 hk9 ce q9 H locs a1 a2 a3 a4 a5 a6 => ?_) (fun vr hv => (inlr hv).elim)
      obtain rfl := Sum.inl.inj hk9
      exact sx_out C ht a1 a2 a3 a4 a5 a6 (Nat.le_of_ble_eq_true rfl) (Nat.le_of_ble_eq_true rfl)
    · replace h := bsr h
      refine sx_xcallS (As := [.int v2]) (rest := []) C hs (c_X11_checkShelf hfl ex4) mo_X11_checkShelf q424 rfl hl.1 ⟨⟨(Nat.le_of_ble_eq_true rfl), (Nat.le_of_ble_eq_true rfl)⟩, (Nat.le_of_ble_eq_true rfl), (Nat.le_of_ble_eq_true rfl)⟩ rfl (Nat.le_of_ble_eq_true rfl) dX11_isEqual_5 (fun k9 hk9 => (inrl hk9).elim) (fun vr hv H locs hs => ?_)
      obtain rfl := Sum.inr.inj hv
      refine W.eq (g2 := F0 m 8 ls []) rfl ?_
      refine W.widen (k := 0) (n := 0) (Nat.le_of_ble_eq_true rfl) (Nat.le_of_ble_eq_true rfl) ?_
      refine lv_aload_n C.1 C.2.1 dX11_isEqual_8 rfl (lv_at hl 0 rfl) ?_
      refine lv_iload_n C.1 C.2.1 dX11_isEqual_9 rfl (lv_at hl 1 rfl) ?_
      replace h := ob h; obtain ⟨⟨⟩, i7, h⟩ := h
      replace h := ob h; obtain ⟨u9, ep8, h⟩ := h
      rcases u9 with j10 | p8
      · replace h := bsl h
        cases h
        refine sx_xcallV (As := [.int v1]) (rest := []) C hs (c_X11_valueOn hfl ep8) mo_X11_valueOn q574 i7 rfl rfl hl.1 ⟨⟨(Nat.le_of_ble_eq_true rfl), (Nat.le_of_ble_eq_true rfl)⟩, (Nat.le_of_ble_eq_true rfl), (Nat.le_of_ble_eq_true rfl)⟩ rfl (Nat.le_of_ble_eq_true rfl) dX11_isEqual_10 (fun k9 hk9 ce q9 H locs a1 a2 a3 a4 a5 a6 => ?_) (fun vr hv => (inlr hv).elim)
        obtain rfl := Sum.inl.inj hk9
        exact sx_out C ht a1 a2 a3 a4 a5 a6 (Nat.le_of_ble_eq_true rfl) (Nat.le_of_ble_eq_true rfl)
      · replace h := bsr h
        refine sx_xcallV (As := [.int v1]) (rest := []) C hs (c_X11_valueOn hfl ep8) mo_X11_valueOn q574 i7 rfl rfl hl.1 ⟨⟨(Nat.le_of_ble_eq_true rfl), (Nat.le_of_ble_eq_true rfl)⟩, (Nat.le_of_ble_eq_true rfl), (Nat.le_of_ble_eq_true rfl)⟩ rfl (Nat.le_of_ble_eq_true rfl) dX11_isEqual_10 (fun k9 hk9 => (inrl hk9).elim) (fun vr hv H locs hs => ?_)
        obtain rfl := Sum.inr.inj hv
        refine W.eq (g2 := F0 m 13 ls [.ref p8]) rfl ?_
        refine W.widen (k := 0) (n := 0) (Nat.le_of_ble_eq_true rfl) (Nat.le_of_ble_eq_true rfl) ?_
        refine lv_astore_n (lv' := [(3, .ref p8), (0, .ref a0), (1, .int v1), (2, .int v2)]) C.1 C.2.1 dX11_isEqual_13 rfl hl (by decide) rfl (fun ls hl => ?_)
        refine lv_aload_n C.1 C.2.1 dX11_isEqual_14 rfl (lv_at hl 1 rfl) ?_
        refine lv_iload_n C.1 C.2.1 dX11_isEqual_15 rfl (lv_at hl 3 rfl) ?_
        replace h := ob h; obtain ⟨u12, ep11, h⟩ := h
        rcases u12 with j13 | p11
        · replace h := bsl h
          cases h
          refine sx_xcallV (As := [.int v2]) (rest := []) C hs (c_X11_valueOn hfl ep11) mo_X11_valueOn q574 i7 rfl rfl hl.1 ⟨⟨(Nat.le_of_ble_eq_true rfl), (Nat.le_of_ble_eq_true rfl)⟩, (Nat.le_of_ble_eq_true rfl), (Nat.le_of_ble_eq_true rfl)⟩ rfl (Nat.le_of_ble_eq_true rfl) dX11_isEqual_16 (fun k9 hk9 ce q9 H locs a1 a2 a3 a4 a5 a6 => ?_) (fun vr hv => (inlr hv).elim)
          obtain rfl := Sum.inl.inj hk9
          exact sx_out C ht a1 a2 a3 a4 a5 a6 (Nat.le_of_ble_eq_true rfl) (Nat.le_of_ble_eq_true rfl)
        · replace h := bsr h
          refine sx_xcallV (As := [.int v2]) (rest := []) C hs (c_X11_valueOn hfl ep11) mo_X11_valueOn q574 i7 rfl rfl hl.1 ⟨⟨(Nat.le_of_ble_eq_true rfl), (Nat.le_of_ble_eq_true rfl)⟩, (Nat.le_of_ble_eq_true rfl), (Nat.le_of_ble_eq_true rfl)⟩ rfl (Nat.le_of_ble_eq_true rfl) dX11_isEqual_16 (fun k9 hk9 => (inrl hk9).elim) (fun vr hv H locs hs => ?_)
          obtain rfl := Sum.inr.inj hv
          refine W.eq (g2 := F0 m 19 ls [.ref p11]) rfl ?_
          refine W.widen (k := 0) (n := 0) (Nat.le_of_ble_eq_true rfl) (Nat.le_of_ble_eq_true rfl) ?_
          refine lv_astore (lv' := [(4, .ref p11), (3, .ref p8), (0, .ref a0), (1, .int v1), (2, .int v2)]) C.1 C.2.1 dX11_isEqual_19 hl (by decide) rfl (fun ls hl => ?_)
          refine lv_aload_n C.1 C.2.1 dX11_isEqual_21 rfl (lv_at hl 1 rfl) ?_
          replace h := ob h; obtain ⟨x14, ex14, h⟩ := h
          refine sx_getV C hs fo_X11_127 (gL_v ex14) dX11_isEqual_22 ?_
          refine lv_aload C.1 C.2.1 dX11_isEqual_25 (lv_at hl 0 rfl) ?_
          replace h := ob h; obtain ⟨x15, ex15, h⟩ := h
          refine sx_getV C hs fo_X11_127 (gL_v ex15) dX11_isEqual_27 ?_
          refine W.lcmp C.1 C.2.1 dX11_isEqual_30 ?_
          refine lv_if_ne (tgt := 50) C.1 C.2.1 dX11_isEqual_31 (by decide) (fun c16 => ?_) (fun c16 => ?_)
          · replace h := iN (fun q => c16 ((lg_cmp_eq _ _).mpr q)) h
            refine lv_iconst (v := 0) C.1 C.2.1 dX11_isEqual_50 (by decide) ?_
            cases h
            exact sx_iretX C hs hr (by decide) dX11_isEqual_51
          · replace h := ip ((lg_cmp_eq _ _).mp c16) h
            refine lv_aload_n C.1 C.2.1 dX11_isEqual_34 rfl (lv_at hl 1 rfl) ?_
            replace h := ob h; obtain ⟨x17, ex17, h⟩ := h
            refine sx_getV C hs fo_X11_120 (gI_v ex17) dX11_isEqual_35 ?_
            refine lv_aload C.1 C.2.1 dX11_isEqual_38 (lv_at hl 0 rfl) ?_
            replace h := ob h; obtain ⟨x18, ex18, h⟩ := h
            refine sx_getV C hs fo_X11_120 (gI_v ex18) dX11_isEqual_40 ?_
            refine lv_icmp_ne (tgt := 50) C.1 C.2.1 dX11_isEqual_43 (by decide) (fun c19 => ?_) (fun c19 => ?_)
            · replace h := iN c19 h
              refine lv_iconst (v := 0) C.1 C.2.1 dX11_isEqual_50 (by decide) ?_
              cases h
              exact sx_iretX C hs hr (by decide) dX11_isEqual_51
            · replace h := ip c19 h
              refine lv_iconst (v := 1) C.1 C.2.1 dX11_isEqual_46 (by decide) ?_
              refine lv_goto (tgt := 51) C.1 C.2.1 dX11_isEqual_47 (by decide) ?_
              cases h
              exact sx_iretX C hs hr (by decide) dX11_isEqual_51
def f_X11_checkCurrency (v0 : Int32) : Option ((Nat ⊕ Unit)) :=
 if v0 < 0 then
 some (.inl 0)
 else
 if v0 < 4 then
 some (.inr ())
 else
 some (.inl 0)
set_option maxHeartbeats 4000000 in
set_option maxRecDepth 100000 in
theorem c_X11_checkCurrency {l : Launch} (hfl : l.stackTraces = false) {g : PP} {σ : Sto} {sz : Nat} {v0 : Int32} {r9 : Nat ⊕ Unit} (h : f_X11_checkCurrency v0 = some r9) : vx_Met l yX11_checkCurrency [Cond.code yX11_checkCurrency cX11_checkCurrency 1 none] (rmk 6 (cX r9) (cY r9) 100) (Pre g σ sz [.int v0]) (PstX g (Sum.map id vV r9) σ sz) (XpX g (Sum.map id vV r9) σ sz) (cX r9) (cY r9) (Aw g) := by
  refine vx_ofW (cc := cX11_checkCurrency) (maxL := 1) (ret := none) (by decide) rfl ?_
  intro p e s m args below meth c s₁ B hml ht hv
  obtain ⟨rfl, C, hs⟩ := ctx_of B hml hv
  have C : Cx g p s m meth c cX11_checkCurrency 1 "Tillhouse" := C
  have hr := B.returns
  have hl := lv_entry ([.int v0]) (n := 1) (Nat.le_of_ble_eq_true rfl)
  rw [lg_entry_eq]
  generalize (lg_sl ([.int v0]) ++ List.replicate (1 - (lg_sl ([.int v0])).length) Slot.unset).toArray = ls at hl ⊢
  have hl : lv_has ls 1 [(0, .int v0)] := hl
  unfold f_X11_checkCurrency at h
  refine lv_iload_n C.1 C.2.1 dX11_checkCurrency_0 rfl (lv_at hl 0 rfl) ?_
  refine lv_if_lt (tgt := 9) C.1 C.2.1 dX11_checkCurrency_1 (by decide) (fun c1 => ?_) (fun c1 => ?_)
  · replace h := ip c1 h
    cases h
    exact sx_throwW C hfl hs to_X11_195_259 ht hl.1 dX11_checkCurrency_9 dX11_checkCurrency_12 dX11_checkCurrency_13 dX11_checkCurrency_16 dX11_checkCurrency_19 ⟨by decide, (Nat.le_of_ble_eq_true rfl), (Nat.le_of_ble_eq_true rfl), (Nat.le_of_ble_eq_true rfl)⟩ ⟨(Nat.le_of_ble_eq_true rfl), (Nat.le_of_ble_eq_true rfl)⟩
  · replace h := iN c1 h
    refine lv_iload_n C.1 C.2.1 dX11_checkCurrency_4 rfl (lv_at hl 0 rfl) ?_
    refine lv_iconst (v := 4) C.1 C.2.1 dX11_checkCurrency_5 (by decide) ?_
    refine lv_icmp_lt (tgt := 20) C.1 C.2.1 dX11_checkCurrency_6 (by decide) (fun c2 => ?_) (fun c2 => ?_)
    · replace h := ip c2 h
      cases h
      exact sx_vretX C hs hr dX11_checkCurrency_20
    · replace h := iN c2 h
      cases h
      exact sx_throwW C hfl hs to_X11_195_259 ht hl.1 dX11_checkCurrency_9 dX11_checkCurrency_12 dX11_checkCurrency_13 dX11_checkCurrency_16 dX11_checkCurrency_19 ⟨by decide, (Nat.le_of_ble_eq_true rfl), (Nat.le_of_ble_eq_true rfl), (Nat.le_of_ble_eq_true rfl)⟩ ⟨(Nat.le_of_ble_eq_true rfl), (Nat.le_of_ble_eq_true rfl)⟩
def f_X11_checkRange (v0 : Int64) (v2 : Int64) (v4 : Int64) : Option ((Nat ⊕ Unit)) :=
 if v0 < v2 then
 some (.inl 1)
 else
 if v0 ≤ v4 then
 some (.inr ())
 else
 some (.inl 1)
set_option maxHeartbeats 4000000 in
set_option maxRecDepth 100000 in
theorem c_X11_checkRange {l : Launch} (hfl : l.stackTraces = false) {g : PP} {σ : Sto} {sz : Nat} {v0 : Int64} {v2 : Int64} {v4 : Int64} {r9 : Nat ⊕ Unit} (h : f_X11_checkRange v0 v2 v4 = some r9) : vx_Met l yX11_checkRange [Cond.code yX11_checkRange cX11_checkRange 6 none] (rmk 6 (cX r9) (cY r9) 100) (Pre g σ sz [.long v0, .long v2, .long v4]) (PstX g (Sum.map id vV r9) σ sz) (XpX g (Sum.map id vV r9) σ sz) (cX r9) (cY r9) (Aw g) := by
  refine vx_ofW (cc := cX11_checkRange) (maxL := 6) (ret := none) (by decide) rfl ?_
  intro p e s m args below meth c s₁ B hml ht hv
  obtain ⟨rfl, C, hs⟩ := ctx_of B hml hv
  have C : Cx g p s m meth c cX11_checkRange 6 "Tillhouse" := C
  have hr := B.returns
  have hl := lv_entry ([.long v0, .long v2, .long v4]) (n := 6) (Nat.le_of_ble_eq_true rfl)
  rw [lg_entry_eq]
  generalize (lg_sl ([.long v0, .long v2, .long v4]) ++ List.replicate (6 - (lg_sl ([.long v0, .long v2, .long v4])).length) Slot.unset).toArray = ls at hl ⊢
  have hl : lv_has ls 6 [(0, .long v0), (2, .long v2), (4, .long v4)] := hl
  unfold f_X11_checkRange at h
  refine lv_lload_n C.1 C.2.1 dX11_checkRange_0 rfl (lv_at hl 0 rfl) ?_
  refine lv_lload_n C.1 C.2.1 dX11_checkRange_1 rfl (lv_at hl 1 rfl) ?_
  refine W.lcmp C.1 C.2.1 dX11_checkRange_2 ?_
  refine lv_if_lt (tgt := 13) C.1 C.2.1 dX11_checkRange_3 (by decide) (fun c1 => ?_) (fun c1 => ?_)
  · replace h := ip ((lg_cmp_lt _ _).mp c1) h
    cases h
    exact sx_throwW C hfl hs to_X11_81_263 ht hl.1 dX11_checkRange_13 dX11_checkRange_16 dX11_checkRange_17 dX11_checkRange_20 dX11_checkRange_23 ⟨by decide, (Nat.le_of_ble_eq_true rfl), (Nat.le_of_ble_eq_true rfl), (Nat.le_of_ble_eq_true rfl)⟩ ⟨(Nat.le_of_ble_eq_true rfl), (Nat.le_of_ble_eq_true rfl)⟩
  · replace h := iN (fun q => c1 ((lg_cmp_lt _ _).mpr q)) h
    refine lv_lload_n C.1 C.2.1 dX11_checkRange_6 rfl (lv_at hl 0 rfl) ?_
    refine lv_lload C.1 C.2.1 dX11_checkRange_7 (lv_at hl 2 rfl) ?_
    refine W.lcmp C.1 C.2.1 dX11_checkRange_9 ?_
    refine lv_if_le (tgt := 24) C.1 C.2.1 dX11_checkRange_10 (by decide) (fun c2 => ?_) (fun c2 => ?_)
    · replace h := ip ((lg_cmp_le _ _).mp c2) h
      cases h
      exact sx_vretX C hs hr dX11_checkRange_24
    · replace h := iN (fun q => c2 ((lg_cmp_le _ _).mpr q)) h
      cases h
      exact sx_throwW C hfl hs to_X11_81_263 ht hl.1 dX11_checkRange_13 dX11_checkRange_16 dX11_checkRange_17 dX11_checkRange_20 dX11_checkRange_23 ⟨by decide, (Nat.le_of_ble_eq_true rfl), (Nat.le_of_ble_eq_true rfl), (Nat.le_of_ble_eq_true rfl)⟩ ⟨(Nat.le_of_ble_eq_true rfl), (Nat.le_of_ble_eq_true rfl)⟩
def f_X11_setCurrency (σ : Sto) (a0 : Nat) (v1 : Int32) (v2 : Int32) (v3 : Int32) (v4 : Int32) : Option ((Nat ⊕ Int32) × Sto) :=
 (f_X11_checkCurrency v1).bind fun u2 =>
 bs u2 (fun j3 => some (.inl j3, σ)) fun x1 =>
 (f_X11_checkRange (Int32.toInt64 v2) 0 3).bind fun u5 =>
 bs u5 (fun j6 => some (.inl j6, σ)) fun x4 =>
 (f_X11_checkMode v3).bind fun u8 =>
 bs u8 (fun j9 => some (.inl j9, σ)) fun x7 =>
 (f_X11_checkRange (Int32.toInt64 v4) 1 100).bind fun u11 =>
 bs u11 (fun j12 => some (.inl j12, σ)) fun x10 =>
 (gR σ a0 10 2).bind fun p13 =>
 (aQ σ p13 5 v1).bind fun w14 =>
 (w14).bind fun p15 =>
 (gI σ p15 0 0).bind fun x16 =>
 (pF σ p15 0 0 (.int v2)).bind fun τ17 =>
 if okC v3 = true then (
 (pF τ17 p15 0 1 (.int v3)).bind fun τ18 =>
 (pF τ18 p15 0 2 (.int v4)).bind fun τ20 =>
 some (.inr x16, τ20)) else none
set_option maxHeartbeats 4000000 in
set_option maxRecDepth 100000 in
theorem c_X11_setCurrency {l : Launch} (hfl : l.stackTraces = false) {g : PP} {σ : Sto} {sz : Nat} {a0 : Nat} {v1 : Int32} {v2 : Int32} {v3 : Int32} {v4 : Int32} {r9 : Nat ⊕ Int32} {σ9 : Sto} (h : f_X11_setCurrency σ a0 v1 v2 v3 v4 = some (r9, σ9)) : vx_Met l yX11_setCurrency [Cond.code yX11_setCurrency cX11_setCurrency 7 (some .int)] (rmk 7 (cX r9) (cY r9) 125) (Pre g σ sz [.ref a0, .int v1, .int v2, .int v3, .int v4]) (PstX g (Sum.map id vI r9) σ9 sz) (XpX g (Sum.map id vI r9) σ9 sz) (cX r9) (cY r9) (Aw g) := by
  refine vx_ofW (cc := cX11_setCurrency) (maxL := 7) (ret := (some .int)) (by decide) rfl ?_
  intro p e s m args below meth c s₁ B hml ht hv
  obtain ⟨rfl, C, hs⟩ := ctx_of B hml hv
  have C : Cx g p s m meth c cX11_setCurrency 7 "Tillhouse" := C
  have hr := B.returns
  have hl := lv_entry ([.ref a0, .int v1, .int v2, .int v3, .int v4]) (n := 7) (Nat.le_of_ble_eq_true rfl)
  rw [lg_entry_eq]
  generalize (lg_sl ([.ref a0, .int v1, .int v2, .int v3, .int v4]) ++ List.replicate (7 - (lg_sl ([.ref a0, .int v1, .int v2, .int v3, .int v4])).length) Slot.unset).toArray = ls at hl ⊢
  have hl : lv_has ls 7 [(0, .ref a0), (1, .int v1), (2, .int v2), (3, .int v3), (4, .int v4)] := hl
  unfold f_X11_setCurrency at h
  refine lv_iload_n C.1 C.2.1 dX11_setCurrency_0 rfl (lv_at hl 1 rfl) ?_
  replace h := ob h; obtain ⟨u2, ex1, h⟩ := h
  rcases u2 with j3 | x1
  · replace h := bsl h
    cases h
    refine sx_xcallS (As := [.int v1]) (rest := []) C hs (c_X11_checkCurrency hfl ex1) mo_X11_checkCurrency q837 rfl hl.1 ⟨⟨(Nat.le_of_ble_eq_true rfl), (Nat.le_of_ble_eq_true rfl)⟩, (Nat.le_of_ble_eq_true rfl), (Nat.le_of_ble_eq_true rfl)⟩ rfl (Nat.le_of_ble_eq_true rfl) dX11_setCurrency_1 (fun k9 hk9 ce q9 H locs a1 a2 a3 a4 a5 a6 => ?_) (fun vr hv => (inlr hv).elim)
    obtain rfl := Sum.inl.inj hk9
    exact sx_out C ht a1 a2 a3 a4 a5 a6 (Nat.le_of_ble_eq_true rfl) (Nat.le_of_ble_eq_true rfl)
  · replace h := bsr h
    refine sx_xcallS (As := [.int v1]) (rest := []) C hs (c_X11_checkCurrency hfl ex1) mo_X11_checkCurrency q837 rfl hl.1 ⟨⟨(Nat.le_of_ble_eq_true rfl), (Nat.le_of_ble_eq_true rfl)⟩, (Nat.le_of_ble_eq_true rfl), (Nat.le_of_ble_eq_true rfl)⟩ rfl (Nat.le_of_ble_eq_true rfl) dX11_setCurrency_1 (fun k9 hk9 => (inrl hk9).elim) (fun vr hv H locs hs => ?_)
    obtain rfl := Sum.inr.inj hv
    refine W.eq (g2 := F0 m 4 ls []) rfl ?_
    refine W.widen (k := 0) (n := 0) (Nat.le_of_ble_eq_true rfl) (Nat.le_of_ble_eq_true rfl) ?_
    refine lv_iload_n C.1 C.2.1 dX11_setCurrency_4 rfl (lv_at hl 2 rfl) ?_
    refine lv_i2l (v := Int32.toInt64 v2) C.1 C.2.1 dX11_setCurrency_5 rfl ?_
    refine lv_lconst (v := 0) C.1 C.2.1 dX11_setCurrency_6 (by decide) ?_
    refine lv_ldc2 (v := 3) C.1 C.2.1 C.2.2.2.1 (C.2.2.2.2.1.1 _ q841 _) dX11_setCurrency_7 ?_
    replace h := ob h; obtain ⟨u5, ex4, h⟩ := h
    rcases u5 with j6 | x4
    · replace h := bsl h
      cases h
      refine sx_xcallS (As := [.long (Int32.toInt64 v2), .long 0, .long 3]) (rest := []) C hs (c_X11_checkRange hfl ex4) mo_X11_checkRange q842 rfl hl.1 ⟨⟨(Nat.le_of_ble_eq_true rfl), (Nat.le_of_ble_eq_true rfl)⟩, (Nat.le_of_ble_eq_true rfl), (Nat.le_of_ble_eq_true rfl)⟩ rfl (Nat.le_of_ble_eq_true rfl) dX11_setCurrency_10 (fun k9 hk9 ce q9 H locs a1 a2 a3 a4 a5 a6 => ?_) (fun vr hv => (inlr hv).elim)
      obtain rfl := Sum.inl.inj hk9
      exact sx_out C ht a1 a2 a3 a4 a5 a6 (Nat.le_of_ble_eq_true rfl) (Nat.le_of_ble_eq_true rfl)
    · replace h := bsr h
      refine sx_xcallS (As := [.long (Int32.toInt64 v2), .long 0, .long 3]) (rest := []) C hs (c_X11_checkRange hfl ex4) mo_X11_checkRange q842 rfl hl.1 ⟨⟨(Nat.le_of_ble_eq_true rfl), (Nat.le_of_ble_eq_true rfl)⟩, (Nat.le_of_ble_eq_true rfl), (Nat.le_of_ble_eq_true rfl)⟩ rfl (Nat.le_of_ble_eq_true rfl) dX11_setCurrency_10 (fun k9 hk9 => (inrl hk9).elim) (fun vr hv H locs hs => ?_)
      obtain rfl := Sum.inr.inj hv
      refine W.eq (g2 := F0 m 13 ls []) rfl ?_
      refine W.widen (k := 0) (n := 0) (Nat.le_of_ble_eq_true rfl) (Nat.le_of_ble_eq_true rfl) ?_
      refine lv_iload_n C.1 C.2.1 dX11_setCurrency_13 rfl (lv_at hl 3 rfl) ?_
      replace h := ob h; obtain ⟨u8, ex7, h⟩ := h
      rcases u8 with j9 | x7
      · replace h := bsl h
        cases h
        refine sx_xcallS (As := [.int v3]) (rest := []) C hs (c_X11_checkMode hfl ex7) mo_X11_checkMode q701 rfl hl.1 ⟨⟨(Nat.le_of_ble_eq_true rfl), (Nat.le_of_ble_eq_true rfl)⟩, (Nat.le_of_ble_eq_true rfl), (Nat.le_of_ble_eq_true rfl)⟩ rfl (Nat.le_of_ble_eq_true rfl) dX11_setCurrency_14 (fun k9 hk9 ce q9 H locs a1 a2 a3 a4 a5 a6 => ?_) (fun vr hv => (inlr hv).elim)
        obtain rfl := Sum.inl.inj hk9
        exact sx_out C ht a1 a2 a3 a4 a5 a6 (Nat.le_of_ble_eq_true rfl) (Nat.le_of_ble_eq_true rfl)
      · replace h := bsr h
        refine sx_xcallS (As := [.int v3]) (rest := []) C hs (c_X11_checkMode hfl ex7) mo_X11_checkMode q701 rfl hl.1 ⟨⟨(Nat.le_of_ble_eq_true rfl), (Nat.le_of_ble_eq_true rfl)⟩, (Nat.le_of_ble_eq_true rfl), (Nat.le_of_ble_eq_true rfl)⟩ rfl (Nat.le_of_ble_eq_true rfl) dX11_setCurrency_14 (fun k9 hk9 => (inrl hk9).elim) (fun vr hv H locs hs => ?_)
        obtain rfl := Sum.inr.inj hv
        refine W.eq (g2 := F0 m 17 ls []) rfl ?_
        refine W.widen (k := 0) (n := 0) (Nat.le_of_ble_eq_true rfl) (Nat.le_of_ble_eq_true rfl) ?_
        refine lv_iload C.1 C.2.1 dX11_setCurrency_17 (lv_at hl 4 rfl) ?_
        refine lv_i2l (v := Int32.toInt64 v4) C.1 C.2.1 dX11_setCurrency_19 rfl ?_
        refine lv_lconst (v := 1) C.1 C.2.1 dX11_setCurrency_20 (by decide) ?_
        refine lv_ldc2 (v := 100) C.1 C.2.1 C.2.2.2.1 (C.2.2.2.2.1.1 _ q846 _) dX11_setCurrency_21 ?_
        replace h := ob h; obtain ⟨u11, ex10, h⟩ := h
        rcases u11 with j12 | x10
        · replace h := bsl h
          cases h
          refine sx_xcallS (As := [.long (Int32.toInt64 v4), .long 1, .long 100]) (rest := []) C hs (c_X11_checkRange hfl ex10) mo_X11_checkRange q842 rfl hl.1 ⟨⟨(Nat.le_of_ble_eq_true rfl), (Nat.le_of_ble_eq_true rfl)⟩, (Nat.le_of_ble_eq_true rfl), (Nat.le_of_ble_eq_true rfl)⟩ rfl (Nat.le_of_ble_eq_true rfl) dX11_setCurrency_24 (fun k9 hk9 ce q9 H locs a1 a2 a3 a4 a5 a6 => ?_) (fun vr hv => (inlr hv).elim)
          obtain rfl := Sum.inl.inj hk9
          exact sx_out C ht a1 a2 a3 a4 a5 a6 (Nat.le_of_ble_eq_true rfl) (Nat.le_of_ble_eq_true rfl)
        · replace h := bsr h
          refine sx_xcallS (As := [.long (Int32.toInt64 v4), .long 1, .long 100]) (rest := []) C hs (c_X11_checkRange hfl ex10) mo_X11_checkRange q842 rfl hl.1 ⟨⟨(Nat.le_of_ble_eq_true rfl), (Nat.le_of_ble_eq_true rfl)⟩, (Nat.le_of_ble_eq_true rfl), (Nat.le_of_ble_eq_true rfl)⟩ rfl (Nat.le_of_ble_eq_true rfl) dX11_setCurrency_24 (fun k9 hk9 => (inrl hk9).elim) (fun vr hv H locs hs => ?_)
          obtain rfl := Sum.inr.inj hv
          refine W.eq (g2 := F0 m 27 ls []) rfl ?_
          refine W.widen (k := 0) (n := 0) (Nat.le_of_ble_eq_true rfl) (Nat.le_of_ble_eq_true rfl) ?_
          refine lv_aload_n C.1 C.2.1 dX11_setCurrency_27 rfl (lv_at hl 0 rfl) ?_
          replace h := ob h; obtain ⟨p13, ep13, h⟩ := h
          refine sx_getV C hs fo_X11_24 (gR_v ep13) dX11_setCurrency_28 ?_
          refine lv_iload_n C.1 C.2.1 dX11_setCurrency_31 rfl (lv_at hl 1 rfl) ?_
          replace h := ob h; obtain ⟨w14, ew14, h⟩ := h
          refine sx_aald C hs (by decide) rfl ew14 dX11_setCurrency_32 ?_
          replace h := ob h; obtain ⟨p15, rfl, h⟩ := h
          refine lv_astore (lv' := [(5, .ref p15), (0, .ref a0), (1, .int v1), (2, .int v2), (3, .int v3), (4, .int v4)]) C.1 C.2.1 dX11_setCurrency_33 hl (by decide) rfl (fun ls hl => ?_)
          refine lv_aload C.1 C.2.1 dX11_setCurrency_35 (lv_at hl 0 rfl) ?_
          replace h := ob h; obtain ⟨x16, ex16, h⟩ := h
          refine sx_getV C hs fo_X11_226 (gI_v ex16) dX11_setCurrency_37 ?_
          refine lv_istore (lv' := [(6, .int x16), (5, .ref p15), (0, .ref a0), (1, .int v1), (2, .int v2), (3, .int v3), (4, .int v4)]) C.1 C.2.1 dX11_setCurrency_40 hl (by decide) rfl (fun ls hl => ?_)
          refine lv_aload C.1 C.2.1 dX11_setCurrency_42 (lv_at hl 1 rfl) ?_
          refine lv_iload_n C.1 C.2.1 dX11_setCurrency_44 rfl (lv_at hl 4 rfl) ?_
          replace h := ob h; obtain ⟨τ17, eτ17, h⟩ := h
          refine sx_put C hs fp_X11_226 rfl rfl eτ17 dX11_setCurrency_45 (fun H locs hs => ?_)
          refine lv_aload C.1 C.2.1 dX11_setCurrency_48 (lv_at hl 1 rfl) ?_
          refine lv_iload_n C.1 C.2.1 dX11_setCurrency_50 rfl (lv_at hl 5 rfl) ?_
          replace h := oi h; obtain ⟨n19, h⟩ := h
          replace h := ob h; obtain ⟨τ18, eτ18, h⟩ := h
          refine sx_put C hs fp_X11_228 (okC_n n19).1 (okC_n n19).2 eτ18 dX11_setCurrency_51 (fun H locs hs => ?_)
          refine lv_aload C.1 C.2.1 dX11_setCurrency_54 (lv_at hl 1 rfl) ?_
          refine lv_iload C.1 C.2.1 dX11_setCurrency_56 (lv_at hl 6 rfl) ?_
          replace h := ob h; obtain ⟨τ20, eτ20, h⟩ := h
          refine sx_put C hs fp_X11_232 rfl rfl eτ20 dX11_setCurrency_58 (fun H locs hs => ?_)
          refine lv_iload C.1 C.2.1 dX11_setCurrency_61 (lv_at hl 0 rfl) ?_
          cases h
          exact sx_iretX C hs hr rfl dX11_setCurrency_63
def f_X11_checkUnlike (v0 : Int32) (v1 : Int32) : Option ((Nat ⊕ Unit)) :=
 if v0 = v1 then
 some (.inl 1)
 else
 some (.inr ())
set_option maxHeartbeats 4000000 in
set_option maxRecDepth 100000 in
theorem c_X11_checkUnlike {l : Launch} (hfl : l.stackTraces = false) {g : PP} {σ : Sto} {sz : Nat} {v0 : Int32} {v1 : Int32} {r9 : Nat ⊕ Unit} (h : f_X11_checkUnlike v0 v1 = some r9) : vx_Met l yX11_checkUnlike [Cond.code yX11_checkUnlike cX11_checkUnlike 2 none] (rmk 6 (cX r9) (cY r9) 100) (Pre g σ sz [.int v0, .int v1]) (PstX g (Sum.map id vV r9) σ sz) (XpX g (Sum.map id vV r9) σ sz) (cX r9) (cY r9) (Aw g) := by
  refine vx_ofW (cc := cX11_checkUnlike) (maxL := 2) (ret := none) (by decide) rfl ?_
  intro p e s m args below meth c s₁ B hml ht hv
  obtain ⟨rfl, C, hs⟩ := ctx_of B hml hv
  have C : Cx g p s m meth c cX11_checkUnlike 2 "Tillhouse" := C
  have hr := B.returns
  have hl := lv_entry ([.int v0, .int v1]) (n := 2) (Nat.le_of_ble_eq_true rfl)
  rw [lg_entry_eq]
  generalize (lg_sl ([.int v0, .int v1]) ++ List.replicate (2 - (lg_sl ([.int v0, .int v1])).length) Slot.unset).toArray = ls at hl ⊢
  have hl : lv_has ls 2 [(0, .int v0), (1, .int v1)] := hl
  unfold f_X11_checkUnlike at h
  refine lv_iload_n C.1 C.2.1 dX11_checkUnlike_0 rfl (lv_at hl 0 rfl) ?_
  refine lv_iload_n C.1 C.2.1 dX11_checkUnlike_1 rfl (lv_at hl 1 rfl) ?_
  refine lv_icmp_ne (tgt := 16) C.1 C.2.1 dX11_checkUnlike_2 (by decide) (fun c1 => ?_) (fun c1 => ?_)
  · replace h := iN c1 h
    cases h
    exact sx_vretX C hs hr dX11_checkUnlike_16
  · replace h := ip c1 h
    cases h
    exact sx_throwW C hfl hs to_X11_81_261 ht hl.1 dX11_checkUnlike_5 dX11_checkUnlike_8 dX11_checkUnlike_9 dX11_checkUnlike_12 dX11_checkUnlike_15 ⟨by decide, (Nat.le_of_ble_eq_true rfl), (Nat.le_of_ble_eq_true rfl), (Nat.le_of_ble_eq_true rfl)⟩ ⟨(Nat.le_of_ble_eq_true rfl), (Nat.le_of_ble_eq_true rfl)⟩
def f_X11_hasRate (σ : Sto) (a0 : Nat) (v1 : Int32) (v2 : Int32) : Option Int32 :=
 (gR σ a0 10 3).bind fun p1 =>
 (aQ σ p1 4 ((v1 * 4) + v2)).bind fun w2 =>
 oq w2 (
 some (0))
 (fun p3 =>
 some (1))
set_option maxHeartbeats 4000000 in
set_option maxRecDepth 100000 in
theorem c_X11_hasRate {l : Launch} {g : PP} {σ : Sto} {sz : Nat} {a0 : Nat} {v1 : Int32} {v2 : Int32} {r9 : Int32} (h : f_X11_hasRate σ a0 v1 v2 = some r9) : Met l yX11_hasRate [Cond.code yX11_hasRate cX11_hasRate 3 (some .boolean)] (rmk 0 0 0 0) (Pre g σ sz [.ref a0, .int v1, .int v2]) (Pst g (vI r9) σ sz) 0 0 (Aw g) := by
  refine Met.ofW (cc := cX11_hasRate) (maxL := 3) (ret := (some .boolean)) (by decide) rfl ?_
  intro p e s m args below meth c s₁ B hml hv
  obtain ⟨rfl, C, hs⟩ := ctx_of B hml hv
  have C : Cx g p s m meth c cX11_hasRate 3 "Tillhouse" := C
  have hr := B.returns
  have hl := lv_entry ([.ref a0, .int v1, .int v2]) (n := 3) (Nat.le_of_ble_eq_true rfl)
  rw [lg_entry_eq]
  generalize (lg_sl ([.ref a0, .int v1, .int v2]) ++ List.replicate (3 - (lg_sl ([.ref a0, .int v1, .int v2])).length) Slot.unset).toArray = ls at hl ⊢
  have hl : lv_has ls 3 [(0, .ref a0), (1, .int v1), (2, .int v2)] := hl
  unfold f_X11_hasRate at h
  refine lv_aload_n C.1 C.2.1 dX11_hasRate_0 rfl (lv_at hl 0 rfl) ?_
  replace h := ob h; obtain ⟨p1, ep1, h⟩ := h
  refine sx_getV C hs fo_X11_28 (gR_v ep1) dX11_hasRate_1 ?_
  refine lv_iload_n C.1 C.2.1 dX11_hasRate_4 rfl (lv_at hl 1 rfl) ?_
  refine lv_iconst (v := 4) C.1 C.2.1 dX11_hasRate_5 (by decide) ?_
  refine lv_imul C.1 C.2.1 dX11_hasRate_6 ?_
  refine lv_iload_n C.1 C.2.1 dX11_hasRate_7 rfl (lv_at hl 2 rfl) ?_
  refine lv_iadd C.1 C.2.1 dX11_hasRate_8 ?_
  replace h := ob h; obtain ⟨w2, ew2, h⟩ := h
  refine sx_aald C hs (by decide) rfl ew2 dX11_hasRate_9 ?_
  rcases w2 with _ | p3
  · replace h := oq0 h
    refine lv_ifnullN (tgt := 17) C.1 C.2.1 dX11_hasRate_10 (by decide) ?_
    refine lv_iconst (v := 0) C.1 C.2.1 dX11_hasRate_17 (by decide) ?_
    cases h
    exact sx_iret C hs hr (by decide) dX11_hasRate_18
  · replace h := oq1 h
    refine lv_ifnull C.1 C.2.1 dX11_hasRate_10 ?_
    refine lv_iconst (v := 1) C.1 C.2.1 dX11_hasRate_13 (by decide) ?_
    refine lv_goto (tgt := 18) C.1 C.2.1 dX11_hasRate_14 (by decide) ?_
    cases h
    exact sx_iret C hs hr (by decide) dX11_hasRate_18
def f_X11_setRate (σ : Sto) (a0 : Nat) (v1 : Int32) (v2 : Int32) (v3 : Int32) : Option ((Nat ⊕ Int32) × Sto) :=
 (f_X11_checkCurrency v1).bind fun u2 =>
 bs u2 (fun j3 => some (.inl j3, σ)) fun x1 =>
 (f_X11_checkCurrency v2).bind fun u5 =>
 bs u5 (fun j6 => some (.inl j6, σ)) fun x4 =>
 (f_X11_checkShelf v3).bind fun u8 =>
 bs u8 (fun j9 => some (.inl j9, σ)) fun x7 =>
 (f_X11_checkUnlike v1 v2).bind fun u11 =>
 bs u11 (fun j12 => some (.inl j12, σ)) fun x10 =>
 (isO σ a0 10).bind fun _ =>
 (f_X11_valueOn σ a0 v3).bind fun u15 =>
 bs u15 (fun j16 => some (.inl j16, σ)) fun p14 =>
 (isO σ p14 9).bind fun _ =>
 (f_X10_sign σ p14).bind fun x18 =>
 if 0 < x18 then
 (f_X11_hasRate σ a0 v1 v2).bind fun x20 =>
 (gR σ a0 10 3).bind fun p21 =>
 (sQ σ p21 4 ((v1 * 4) + v2) p14).bind fun τ22 =>
 if okZ x20 = true then (
 some (.inr x20, τ22)) else none
 else
 some (.inl 3, σ)
set_option maxHeartbeats 4000000 in
set_option maxRecDepth 100000 in
theorem c_X11_setRate {l : Launch} (hfl : l.stackTraces = false) {g : PP} {σ : Sto} {sz : Nat} {a0 : Nat} {v1 : Int32} {v2 : Int32} {v3 : Int32} {r9 : Nat ⊕ Int32} {σ9 : Sto} (h : f_X11_setRate σ a0 v1 v2 v3 = some (r9, σ9)) : vx_Met l yX11_setRate [Cond.code yX11_setRate cX11_setRate 6 (some .boolean)] (rmk 7 (cX r9) (cY r9) 122) (Pre g σ sz [.ref a0, .int v1, .int v2, .int v3]) (PstX g (Sum.map id vI r9) σ9 sz) (XpX g (Sum.map id vI r9) σ9 sz) (cX r9) (cY r9) (Aw g) := by
  refine vx_ofW (cc := cX11_setRate) (maxL := 6) (ret := (some .boolean)) (by decide) rfl ?_
  intro p e s m args below meth c s₁ B hml ht hv
  obtain ⟨rfl, C, hs⟩ := ctx_of B hml hv
  have C : Cx g p s m meth c cX11_setRate 6 "Tillhouse" := C
  have hr := B.returns
  have hl := lv_entry ([.ref a0, .int v1, .int v2, .int v3]) (n := 6) (Nat.le_of_ble_eq_true rfl)
  rw [lg_entry_eq]
  generalize (lg_sl ([.ref a0, .int v1, .int v2, .int v3]) ++ List.replicate (6 - (lg_sl ([.ref a0, .int v1, .int v2, .int v3])).length) Slot.unset).toArray = ls at hl ⊢
  have hl : lv_has ls 6 [(0, .ref a0), (1, .int v1), (2, .int v2), (3, .int v3)] := hl
  unfold f_X11_setRate at h
  refine lv_iload_n C.1 C.2.1 dX11_setRate_0 rfl (lv_at hl 1 rfl) ?_
  replace h := ob h; obtain ⟨u2, ex1, h⟩ := h
  rcases u2 with j3 | x1
  · replace h := bsl h
    cases h
    refine sx_xcallS (As := [.int v1]) (rest := []) C hs (c_X11_checkCurrency hfl ex1) mo_X11_checkCurrency q837 rfl hl.1 ⟨⟨(Nat.le_of_ble_eq_true rfl), (Nat.le_of_ble_eq_true rfl)⟩, (Nat.le_of_ble_eq_true rfl), (Nat.le_of_ble_eq_true rfl)⟩ rfl (Nat.le_of_ble_eq_true rfl) dX11_setRate_1 (fun k9 hk9 ce q9 H locs a1 a2 a3 a4 a5 a6 => ?_) (fun vr hv => (inlr hv).elim)
    obtain rfl := Sum.inl.inj hk9
    exact sx_out C ht a1 a2 a3 a4 a5 a6 (Nat.le_of_ble_eq_true rfl) (Nat.le_of_ble_eq_true rfl)
  · replace h := bsr h
    refine sx_xcallS (As := [.int v1]) (rest := []) C hs (c_X11_checkCurrency hfl ex1) mo_X11_checkCurrency q837 rfl hl.1 ⟨⟨(Nat.le_of_ble_eq_true rfl), (Nat.le_of_ble_eq_true rfl)⟩, (Nat.le_of_ble_eq_true rfl), (Nat.le_of_ble_eq_true rfl)⟩ rfl (Nat.le_of_ble_eq_true rfl) dX11_setRate_1 (fun k9 hk9 => (inrl hk9).elim) (fun vr hv H locs hs => ?_)
    obtain rfl := Sum.inr.inj hv
    refine W.eq (g2 := F0 m 4 ls []) rfl ?_
    refine W.widen (k := 0) (n := 0) (Nat.le_of_ble_eq_true rfl) (Nat.le_of_ble_eq_true rfl) ?_
    refine lv_iload_n C.1 C.2.1 dX11_setRate_4 rfl (lv_at hl 2 rfl) ?_
    replace h := ob h; obtain ⟨u5, ex4, h⟩ := h
    rcases u5 with j6 | x4
    · replace h := bsl h
      cases h
      refine sx_xcallS (As := [.int v2]) (rest := []) C hs (c_X11_checkCurrency hfl ex4) mo_X11_checkCurrency q837 rfl hl.1 ⟨⟨(Nat.le_of_ble_eq_true rfl), (Nat.le_of_ble_eq_true rfl)⟩, (Nat.le_of_ble_eq_true rfl), (Nat.le_of_ble_eq_true rfl)⟩ rfl (Nat.le_of_ble_eq_true rfl) dX11_setRate_5 (fun k9 hk9 ce q9 H locs a1 a2 a3 a4 a5 a6 => ?_) (fun vr hv => (inlr hv).elim)
      obtain rfl := Sum.inl.inj hk9
      exact sx_out C ht a1 a2 a3 a4 a5 a6 (Nat.le_of_ble_eq_true rfl) (Nat.le_of_ble_eq_true rfl)
    · replace h := bsr h
      refine sx_xcallS (As := [.int v2]) (rest := []) C hs (c_X11_checkCurrency hfl ex4) mo_X11_checkCurrency q837 rfl hl.1 ⟨⟨(Nat.le_of_ble_eq_true rfl), (Nat.le_of_ble_eq_true rfl)⟩, (Nat.le_of_ble_eq_true rfl), (Nat.le_of_ble_eq_true rfl)⟩ rfl (Nat.le_of_ble_eq_true rfl) dX11_setRate_5 (fun k9 hk9 => (inrl hk9).elim) (fun vr hv H locs hs => ?_)
      obtain rfl := Sum.inr.inj hv
      refine W.eq (g2 := F0 m 8 ls []) rfl ?_
      refine W.widen (k := 0) (n := 0) (Nat.le_of_ble_eq_true rfl) (Nat.le_of_ble_eq_true rfl) ?_
      refine lv_iload_n C.1 C.2.1 dX11_setRate_8 rfl (lv_at hl 3 rfl) ?_
      replace h := ob h; obtain ⟨u8, ex7, h⟩ := h
      rcases u8 with j9 | x7
      · replace h := bsl h
        cases h
        refine sx_xcallS (As := [.int v3]) (rest := []) C hs (c_X11_checkShelf hfl ex7) mo_X11_checkShelf q424 rfl hl.1 ⟨⟨(Nat.le_of_ble_eq_true rfl), (Nat.le_of_ble_eq_true rfl)⟩, (Nat.le_of_ble_eq_true rfl), (Nat.le_of_ble_eq_true rfl)⟩ rfl (Nat.le_of_ble_eq_true rfl) dX11_setRate_9 (fun k9 hk9 ce q9 H locs a1 a2 a3 a4 a5 a6 => ?_) (fun vr hv => (inlr hv).elim)
        obtain rfl := Sum.inl.inj hk9
        exact sx_out C ht a1 a2 a3 a4 a5 a6 (Nat.le_of_ble_eq_true rfl) (Nat.le_of_ble_eq_true rfl)
      · replace h := bsr h
        refine sx_xcallS (As := [.int v3]) (rest := []) C hs (c_X11_checkShelf hfl ex7) mo_X11_checkShelf q424 rfl hl.1 ⟨⟨(Nat.le_of_ble_eq_true rfl), (Nat.le_of_ble_eq_true rfl)⟩, (Nat.le_of_ble_eq_true rfl), (Nat.le_of_ble_eq_true rfl)⟩ rfl (Nat.le_of_ble_eq_true rfl) dX11_setRate_9 (fun k9 hk9 => (inrl hk9).elim) (fun vr hv H locs hs => ?_)
        obtain rfl := Sum.inr.inj hv
        refine W.eq (g2 := F0 m 12 ls []) rfl ?_
        refine W.widen (k := 0) (n := 0) (Nat.le_of_ble_eq_true rfl) (Nat.le_of_ble_eq_true rfl) ?_
        refine lv_iload_n C.1 C.2.1 dX11_setRate_12 rfl (lv_at hl 1 rfl) ?_
        refine lv_iload_n C.1 C.2.1 dX11_setRate_13 rfl (lv_at hl 2 rfl) ?_
        replace h := ob h; obtain ⟨u11, ex10, h⟩ := h
        rcases u11 with j12 | x10
        · replace h := bsl h
          cases h
          refine sx_xcallS (As := [.int v1, .int v2]) (rest := []) C hs (c_X11_checkUnlike hfl ex10) mo_X11_checkUnlike q854 rfl hl.1 ⟨⟨(Nat.le_of_ble_eq_true rfl), (Nat.le_of_ble_eq_true rfl)⟩, (Nat.le_of_ble_eq_true rfl), (Nat.le_of_ble_eq_true rfl)⟩ rfl (Nat.le_of_ble_eq_true rfl) dX11_setRate_14 (fun k9 hk9 ce q9 H locs a1 a2 a3 a4 a5 a6 => ?_) (fun vr hv => (inlr hv).elim)
          obtain rfl := Sum.inl.inj hk9
          exact sx_out C ht a1 a2 a3 a4 a5 a6 (Nat.le_of_ble_eq_true rfl) (Nat.le_of_ble_eq_true rfl)
        · replace h := bsr h
          refine sx_xcallS (As := [.int v1, .int v2]) (rest := []) C hs (c_X11_checkUnlike hfl ex10) mo_X11_checkUnlike q854 rfl hl.1 ⟨⟨(Nat.le_of_ble_eq_true rfl), (Nat.le_of_ble_eq_true rfl)⟩, (Nat.le_of_ble_eq_true rfl), (Nat.le_of_ble_eq_true rfl)⟩ rfl (Nat.le_of_ble_eq_true rfl) dX11_setRate_14 (fun k9 hk9 => (inrl hk9).elim) (fun vr hv H locs hs => ?_)
          obtain rfl := Sum.inr.inj hv
          refine W.eq (g2 := F0 m 17 ls []) rfl ?_
          refine W.widen (k := 0) (n := 0) (Nat.le_of_ble_eq_true rfl) (Nat.le_of_ble_eq_true rfl) ?_
          refine lv_aload_n C.1 C.2.1 dX11_setRate_17 rfl (lv_at hl 0 rfl) ?_
          refine lv_iload_n C.1 C.2.1 dX11_setRate_18 rfl (lv_at hl 3 rfl) ?_
          replace h := ob h; obtain ⟨⟨⟩, i13, h⟩ := h
          replace h := ob h; obtain ⟨u15, ep14, h⟩ := h
          rcases u15 with j16 | p14
          · replace h := bsl h
            cases h
            refine sx_xcallV (As := [.int v3]) (rest := []) C hs (c_X11_valueOn hfl ep14) mo_X11_valueOn q574 i13 rfl rfl hl.1 ⟨⟨(Nat.le_of_ble_eq_true rfl), (Nat.le_of_ble_eq_true rfl)⟩, (Nat.le_of_ble_eq_true rfl), (Nat.le_of_ble_eq_true rfl)⟩ rfl (Nat.le_of_ble_eq_true rfl) dX11_setRate_19 (fun k9 hk9 ce q9 H locs a1 a2 a3 a4 a5 a6 => ?_) (fun vr hv => (inlr hv).elim)
            obtain rfl := Sum.inl.inj hk9
            exact sx_out C ht a1 a2 a3 a4 a5 a6 (Nat.le_of_ble_eq_true rfl) (Nat.le_of_ble_eq_true rfl)
          · replace h := bsr h
            refine sx_xcallV (As := [.int v3]) (rest := []) C hs (c_X11_valueOn hfl ep14) mo_X11_valueOn q574 i13 rfl rfl hl.1 ⟨⟨(Nat.le_of_ble_eq_true rfl), (Nat.le_of_ble_eq_true rfl)⟩, (Nat.le_of_ble_eq_true rfl), (Nat.le_of_ble_eq_true rfl)⟩ rfl (Nat.le_of_ble_eq_true rfl) dX11_setRate_19 (fun k9 hk9 => (inrl hk9).elim) (fun vr hv H locs hs => ?_)
            obtain rfl := Sum.inr.inj hv
            refine W.eq (g2 := F0 m 22 ls [.ref p14]) rfl ?_
            refine W.widen (k := 0) (n := 0) (Nat.le_of_ble_eq_true rfl) (Nat.le_of_ble_eq_true rfl) ?_
            refine lv_astore (lv' := [(4, .ref p14), (0, .ref a0), (1, .int v1), (2, .int v2), (3, .int v3)]) C.1 C.2.1 dX11_setRate_22 hl (by decide) rfl (fun ls hl => ?_)
            refine lv_aload C.1 C.2.1 dX11_setRate_24 (lv_at hl 0 rfl) ?_
            replace h := ob h; obtain ⟨⟨⟩, i17, h⟩ := h
            replace h := ob h; obtain ⟨x18, ex18, h⟩ := h
            refine sx_callV (As := []) (rest := []) C hs (c_X10_sign ex18) mo_X10_sign q608 i17 rfl rfl hl.1 ⟨⟨(Nat.le_of_ble_eq_true rfl), (Nat.le_of_ble_eq_true rfl)⟩, (Nat.le_of_ble_eq_true rfl), (Nat.le_of_ble_eq_true rfl)⟩ rfl (Nat.le_of_ble_eq_true rfl) dX11_setRate_26 (fun H locs hs => ?_)
            refine W.eq (g2 := F0 m 29 ls [.int x18]) rfl ?_
            refine lv_if_gt (tgt := 42) C.1 C.2.1 dX11_setRate_29 (by decide) (fun c19 => ?_) (fun c19 => ?_)
            · replace h := ip c19 h
              refine lv_aload_n C.1 C.2.1 dX11_setRate_42 rfl (lv_at hl 1 rfl) ?_
              refine lv_iload_n C.1 C.2.1 dX11_setRate_43 rfl (lv_at hl 2 rfl) ?_
              refine lv_iload_n C.1 C.2.1 dX11_setRate_44 rfl (lv_at hl 3 rfl) ?_
              replace h := ob h; obtain ⟨x20, ex20, h⟩ := h
              refine sx_callV (As := [.int v1, .int v2]) (rest := []) C hs (c_X11_hasRate ex20) mo_X11_hasRate q861 i13 rfl rfl hl.1 ⟨⟨(Nat.le_of_ble_eq_true rfl), (Nat.le_of_ble_eq_true rfl)⟩, (Nat.le_of_ble_eq_true rfl), (Nat.le_of_ble_eq_true rfl)⟩ rfl (Nat.le_of_ble_eq_true rfl) dX11_setRate_45 (fun H locs hs => ?_)
              refine W.eq (g2 := F0 m 48 ls [.int x20]) rfl ?_
              refine lv_istore (lv' := [(5, .int x20), (4, .ref p14), (0, .ref a0), (1, .int v1), (2, .int v2), (3, .int v3)]) C.1 C.2.1 dX11_setRate_48 hl (by decide) rfl (fun ls hl => ?_)
              refine lv_aload_n C.1 C.2.1 dX11_setRate_50 rfl (lv_at hl 2 rfl) ?_
              replace h := ob h; obtain ⟨p21, ep21, h⟩ := h
              refine sx_getV C hs fo_X11_28 (gR_v ep21) dX11_setRate_51 ?_
              refine lv_iload_n C.1 C.2.1 dX11_setRate_54 rfl (lv_at hl 3 rfl) ?_
              refine lv_iconst (v := 4) C.1 C.2.1 dX11_setRate_55 (by decide) ?_
              refine lv_imul C.1 C.2.1 dX11_setRate_56 ?_
              refine lv_iload_n C.1 C.2.1 dX11_setRate_57 rfl (lv_at hl 4 rfl) ?_
              refine lv_iadd C.1 C.2.1 dX11_setRate_58 ?_
              refine lv_aload C.1 C.2.1 dX11_setRate_59 (lv_at hl 1 rfl) ?_
              replace h := ob h; obtain ⟨τ22, eτ22, h⟩ := h
              refine sx_aast (r := (RX10, TX10, 2)) C hs (by decide) rfl rfl eτ22 dX11_setRate_61 (fun H locs hs => ?_)
              refine lv_iload C.1 C.2.1 dX11_setRate_62 (lv_at hl 0 rfl) ?_
              replace h := oi h; obtain ⟨n23, h⟩ := h
              cases h
              exact sx_iretX C hs hr (okZ_n n23).1 dX11_setRate_64
            · replace h := iN c19 h
              cases h
              exact sx_throw C hfl hs to_X11_239_241 ht hl.1 dX11_setRate_32 dX11_setRate_35 dX11_setRate_36 dX11_setRate_38 dX11_setRate_41 ⟨by decide, (Nat.le_of_ble_eq_true rfl), (Nat.le_of_ble_eq_true rfl), (Nat.le_of_ble_eq_true rfl)⟩ ⟨(Nat.le_of_ble_eq_true rfl), (Nat.le_of_ble_eq_true rfl)⟩
def f_X11_checkChange (a0 : Nat) (v1 : Int32) (v2 : Int32) (v3 : Int64) : Option ((Nat ⊕ Unit)) :=
 (f_X11_checkCurrency v1).bind fun u2 =>
 bs u2 (fun j3 => some (.inl j3)) fun x1 =>
 (f_X11_checkCurrency v2).bind fun u5 =>
 bs u5 (fun j6 => some (.inl j6)) fun x4 =>
 (f_X11_checkUnlike v1 v2).bind fun u8 =>
 bs u8 (fun j9 => some (.inl j9)) fun x7 =>
 (f_X11_checkRange v3 0 1000000000000).bind fun u11 =>
 bs u11 (fun j12 => some (.inl j12)) fun x10 =>
 some (.inr ())
set_option maxHeartbeats 4000000 in
set_option maxRecDepth 100000 in
theorem c_X11_checkChange {l : Launch} (hfl : l.stackTraces = false) {g : PP} {σ : Sto} {sz : Nat} {a0 : Nat} {v1 : Int32} {v2 : Int32} {v3 : Int64} {r9 : Nat ⊕ Unit} (h : f_X11_checkChange a0 v1 v2 v3 = some r9) : vx_Met l yX11_checkChange [Cond.code yX11_checkChange cX11_checkChange 5 none] (rmk 7 (cX r9) (cY r9) 125) (Pre g σ sz [.ref a0, .int v1, .int v2, .long v3]) (PstX g (Sum.map id vV r9) σ sz) (XpX g (Sum.map id vV r9) σ sz) (cX r9) (cY r9) (Aw g) := by
  refine vx_ofW (cc := cX11_checkChange) (maxL := 5) (ret := none) (by decide) rfl ?_
  intro p e s m args below meth c s₁ B hml ht hv
  obtain ⟨rfl, C, hs⟩ := ctx_of B hml hv
  have C : Cx g p s m meth c cX11_checkChange 5 "Tillhouse" := C
  have hr := B.returns
  have hl := lv_entry ([.ref a0, .int v1, .int v2, .long v3]) (n := 5) (Nat.le_of_ble_eq_true rfl)
  rw [lg_entry_eq]
  generalize (lg_sl ([.ref a0, .int v1, .int v2, .long v3]) ++ List.replicate (5 - (lg_sl ([.ref a0, .int v1, .int v2, .long v3])).length) Slot.unset).toArray = ls at hl ⊢
  have hl : lv_has ls 5 [(0, .ref a0), (1, .int v1), (2, .int v2), (3, .long v3)] := hl
  unfold f_X11_checkChange at h
  refine lv_iload_n C.1 C.2.1 dX11_checkChange_0 rfl (lv_at hl 1 rfl) ?_
  replace h := ob h; obtain ⟨u2, ex1, h⟩ := h
  rcases u2 with j3 | x1
  · replace h := bsl h
    cases h
    refine sx_xcallS (As := [.int v1]) (rest := []) C hs (c_X11_checkCurrency hfl ex1) mo_X11_checkCurrency q837 rfl hl.1 ⟨⟨(Nat.le_of_ble_eq_true rfl), (Nat.le_of_ble_eq_true rfl)⟩, (Nat.le_of_ble_eq_true rfl), (Nat.le_of_ble_eq_true rfl)⟩ rfl (Nat.le_of_ble_eq_true rfl) dX11_checkChange_1 (fun k9 hk9 ce q9 H locs a1 a2 a3 a4 a5 a6 => ?_) (fun vr hv => (inlr hv).elim)
    obtain rfl := Sum.inl.inj hk9
    exact sx_out C ht a1 a2 a3 a4 a5 a6 (Nat.le_of_ble_eq_true rfl) (Nat.le_of_ble_eq_true rfl)
  · replace h := bsr h
    refine sx_xcallS (As := [.int v1]) (rest := []) C hs (c_X11_checkCurrency hfl ex1) mo_X11_checkCurrency q837 rfl hl.1 ⟨⟨(Nat.le_of_ble_eq_true rfl), (Nat.le_of_ble_eq_true rfl)⟩, (Nat.le_of_ble_eq_true rfl), (Nat.le_of_ble_eq_true rfl)⟩ rfl (Nat.le_of_ble_eq_true rfl) dX11_checkChange_1 (fun k9 hk9 => (inrl hk9).elim) (fun vr hv H locs hs => ?_)
    obtain rfl := Sum.inr.inj hv
    refine W.eq (g2 := F0 m 4 ls []) rfl ?_
    refine W.widen (k := 0) (n := 0) (Nat.le_of_ble_eq_true rfl) (Nat.le_of_ble_eq_true rfl) ?_
    refine lv_iload_n C.1 C.2.1 dX11_checkChange_4 rfl (lv_at hl 2 rfl) ?_
    replace h := ob h; obtain ⟨u5, ex4, h⟩ := h
    rcases u5 with j6 | x4
    · replace h := bsl h
      cases h
      refine sx_xcallS (As := [.int v2]) (rest := []) C hs (c_X11_checkCurrency hfl ex4) mo_X11_checkCurrency q837 rfl hl.1 ⟨⟨(Nat.le_of_ble_eq_true rfl), (Nat.le_of_ble_eq_true rfl)⟩, (Nat.le_of_ble_eq_true rfl), (Nat.le_of_ble_eq_true rfl)⟩ rfl (Nat.le_of_ble_eq_true rfl) dX11_checkChange_5 (fun k9 hk9 ce q9 H locs a1 a2 a3 a4 a5 a6 => ?_) (fun vr hv => (inlr hv).elim)
      obtain rfl := Sum.inl.inj hk9
      exact sx_out C ht a1 a2 a3 a4 a5 a6 (Nat.le_of_ble_eq_true rfl) (Nat.le_of_ble_eq_true rfl)
    · replace h := bsr h
      refine sx_xcallS (As := [.int v2]) (rest := []) C hs (c_X11_checkCurrency hfl ex4) mo_X11_checkCurrency q837 rfl hl.1 ⟨⟨(Nat.le_of_ble_eq_true rfl), (Nat.le_of_ble_eq_true rfl)⟩, (Nat.le_of_ble_eq_true rfl), (Nat.le_of_ble_eq_true rfl)⟩ rfl (Nat.le_of_ble_eq_true rfl) dX11_checkChange_5 (fun k9 hk9 => (inrl hk9).elim) (fun vr hv H locs hs => ?_)
      obtain rfl := Sum.inr.inj hv
      refine W.eq (g2 := F0 m 8 ls []) rfl ?_
      refine W.widen (k := 0) (n := 0) (Nat.le_of_ble_eq_true rfl) (Nat.le_of_ble_eq_true rfl) ?_
      refine lv_iload_n C.1 C.2.1 dX11_checkChange_8 rfl (lv_at hl 1 rfl) ?_
      refine lv_iload_n C.1 C.2.1 dX11_checkChange_9 rfl (lv_at hl 2 rfl) ?_
      replace h := ob h; obtain ⟨u8, ex7, h⟩ := h
      rcases u8 with j9 | x7
      · replace h := bsl h
        cases h
        refine sx_xcallS (As := [.int v1, .int v2]) (rest := []) C hs (c_X11_checkUnlike hfl ex7) mo_X11_checkUnlike q854 rfl hl.1 ⟨⟨(Nat.le_of_ble_eq_true rfl), (Nat.le_of_ble_eq_true rfl)⟩, (Nat.le_of_ble_eq_true rfl), (Nat.le_of_ble_eq_true rfl)⟩ rfl (Nat.le_of_ble_eq_true rfl) dX11_checkChange_10 (fun k9 hk9 ce q9 H locs a1 a2 a3 a4 a5 a6 => ?_) (fun vr hv => (inlr hv).elim)
        obtain rfl := Sum.inl.inj hk9
        exact sx_out C ht a1 a2 a3 a4 a5 a6 (Nat.le_of_ble_eq_true rfl) (Nat.le_of_ble_eq_true rfl)
      · replace h := bsr h
        refine sx_xcallS (As := [.int v1, .int v2]) (rest := []) C hs (c_X11_checkUnlike hfl ex7) mo_X11_checkUnlike q854 rfl hl.1 ⟨⟨(Nat.le_of_ble_eq_true rfl), (Nat.le_of_ble_eq_true rfl)⟩, (Nat.le_of_ble_eq_true rfl), (Nat.le_of_ble_eq_true rfl)⟩ rfl (Nat.le_of_ble_eq_true rfl) dX11_checkChange_10 (fun k9 hk9 => (inrl hk9).elim) (fun vr hv H locs hs => ?_)
        obtain rfl := Sum.inr.inj hv
        refine W.eq (g2 := F0 m 13 ls []) rfl ?_
        refine W.widen (k := 0) (n := 0) (Nat.le_of_ble_eq_true rfl) (Nat.le_of_ble_eq_true rfl) ?_
        refine lv_lload_n C.1 C.2.1 dX11_checkChange_13 rfl (lv_at hl 3 rfl) ?_
        refine lv_lconst (v := 0) C.1 C.2.1 dX11_checkChange_14 (by decide) ?_
        refine lv_ldc2 (v := 1000000000000) C.1 C.2.1 C.2.2.2.1 (C.2.2.2.2.1.1 _ q876 _) dX11_checkChange_15 ?_
        replace h := ob h; obtain ⟨u11, ex10, h⟩ := h
        rcases u11 with j12 | x10
        · replace h := bsl h
          cases h
          refine sx_xcallS (As := [.long v3, .long 0, .long 1000000000000]) (rest := []) C hs (c_X11_checkRange hfl ex10) mo_X11_checkRange q842 rfl hl.1 ⟨⟨(Nat.le_of_ble_eq_true rfl), (Nat.le_of_ble_eq_true rfl)⟩, (Nat.le_of_ble_eq_true rfl), (Nat.le_of_ble_eq_true rfl)⟩ rfl (Nat.le_of_ble_eq_true rfl) dX11_checkChange_18 (fun k9 hk9 ce q9 H locs a1 a2 a3 a4 a5 a6 => ?_) (fun vr hv => (inlr hv).elim)
          obtain rfl := Sum.inl.inj hk9
          exact sx_out C ht a1 a2 a3 a4 a5 a6 (Nat.le_of_ble_eq_true rfl) (Nat.le_of_ble_eq_true rfl)
        · replace h := bsr h
          refine sx_xcallS (As := [.long v3, .long 0, .long 1000000000000]) (rest := []) C hs (c_X11_checkRange hfl ex10) mo_X11_checkRange q842 rfl hl.1 ⟨⟨(Nat.le_of_ble_eq_true rfl), (Nat.le_of_ble_eq_true rfl)⟩, (Nat.le_of_ble_eq_true rfl), (Nat.le_of_ble_eq_true rfl)⟩ rfl (Nat.le_of_ble_eq_true rfl) dX11_checkChange_18 (fun k9 hk9 => (inrl hk9).elim) (fun vr hv H locs hs => ?_)
          obtain rfl := Sum.inr.inj hv
          refine W.eq (g2 := F0 m 21 ls []) rfl ?_
          refine W.widen (k := 0) (n := 0) (Nat.le_of_ble_eq_true rfl) (Nat.le_of_ble_eq_true rfl) ?_
          cases h
          exact sx_vretX C hs hr dX11_checkChange_21
def f_X11_changed (σ : Sto) (sz : Nat) (a0 : Nat) (v1 : Int32) (v2 : Int32) (v3 : Int64) : Option ((Nat ⊕ Int64) × Sto × Nat) :=
 (gR σ a0 10 3).bind fun p1 =>
 (aQ σ p1 4 ((v1 * 4) + v2)).bind fun w2 =>
 oq w2 (
 some (.inl 2, σ, sz))
 (fun p3 =>
 (gR σ a0 10 2).bind fun p4 =>
 (aQ σ p4 5 v2).bind fun w5 =>
 (w5).bind fun p6 =>
 (gI σ p6 0 0).bind fun x7 =>
 (gR σ a0 10 2).bind fun p8 =>
 (aQ σ p8 5 v1).bind fun w9 =>
 (w9).bind fun p10 =>
 (gI σ p10 0 0).bind fun x11 =>
 (gI σ p3 9 1).bind fun x12 =>
 lt_ ((x7 - x11) - x12) fun x13 =>
 lt_ (nO σ sz 5 dvX5) fun τ14 =>
 (gL τ14 p3 9 0).bind fun x15 =>
 b2 (f_X5_init τ14 sz v3 x15) fun x16 τ17 =>
 (gR τ17 a0 10 2).bind fun p18 =>
 (aQ τ17 p18 5 v2).bind fun w19 =>
 (w19).bind fun p20 =>
 (gI τ17 p20 0 1).bind fun x21 =>
 (isO τ17 sz 5).bind fun _ =>
 (f_X5_shifted τ17 sz x13 x21).bind fun u24 =>
 bs u24 (fun j25 => some (.inl j25, τ17, sz + 1)) fun x23 =>
 some (.inr x23, τ17, sz + 1))
set_option maxHeartbeats 4000000 in
set_option maxRecDepth 100000 in
theorem c_X11_changed {l : Launch} (hfl : l.stackTraces = false) {g : PP} {σ : Sto} {sz : Nat} {a0 : Nat} {v1 : Int32} {v2 : Int32} {v3 : Int64} {r9 : Nat ⊕ Int64} {σ9 : Sto} {sz9 : Nat} (h : f_X11_changed σ sz a0 v1 v2 v3 = some (r9, σ9, sz9)) : vx_Met l yX11_changed [Cond.code yX11_changed cX11_changed 7 (some .long)] (rmk 10 2 8 194) (Pre g σ sz [.ref a0, .int v1, .int v2, .long v3]) (PstX g (Sum.map id vL r9) σ9 sz9) (XpX g (Sum.map id vL r9) σ9 sz9) 2 8 (Aw g) := by
  refine vx_ofW (cc := cX11_changed) (maxL := 7) (ret := (some .long)) (by decide) rfl ?_
  intro p e s m args below meth c s₁ B hml ht hv
  obtain ⟨rfl, C, hs⟩ := ctx_of B hml hv
  have C : Cx g p s m meth c cX11_changed 7 "Tillhouse" := C
  have hr := B.returns
  have hl := lv_entry ([.ref a0, .int v1, .int v2, .long v3]) (n := 7) (Nat.le_of_ble_eq_true rfl)
  rw [lg_entry_eq]
  generalize (lg_sl ([.ref a0, .int v1, .int v2, .long v3]) ++ List.replicate (7 - (lg_sl ([.ref a0, .int v1, .int v2, .long v3])).length) Slot.unset).toArray = ls at hl ⊢
  have hl : lv_has ls 7 [(0, .ref a0), (1, .int v1), (2, .int v2), (3, .long v3)] := hl
  unfold f_X11_changed at h
  refine lv_aload_n C.1 C.2.1 dX11_changed_0 rfl (lv_at hl 0 rfl) ?_
  replace h := ob h; obtain ⟨p1, ep1, h⟩ := h
  refine sx_getV C hs fo_X11_28 (gR_v ep1) dX11_changed_1 ?_
  refine lv_iload_n C.1 C.2.1 dX11_changed_4 rfl (lv_at hl 1 rfl) ?_
  refine lv_iconst (v := 4) C.1 C.2.1 dX11_changed_5 (by decide) ?_
  refine lv_imul C.1 C.2.1 dX11_changed_6 ?_
  refine lv_iload_n C.1 C.2.1 dX11_changed_7 rfl (lv_at hl 2 rfl) ?_
  refine lv_iadd C.1 C.2.1 dX11_changed_8 ?_
  replace h := ob h; obtain ⟨w2, ew2, h⟩ := h
  refine sx_aald C hs (by decide) rfl ew2 dX11_changed_9 ?_
  refine sx_astoreQ (lv' := [(5, va_rf w2), (0, .ref a0), (1, .int v1), (2, .int v2), (3, .long v3)]) C.1 C.2.1 dX11_changed_10 hl (by decide) rfl (fun ls hl => ?_)
  refine sx_aloadQ C.1 C.2.1 dX11_changed_12 (lv_at hl 0 rfl) ?_
  rcases w2 with _ | p3
  · replace h := oq0 h
    refine lv_ifnonnullN C.1 C.2.1 dX11_changed_14 ?_
    cases h
    exact sx_throwNW C hfl hs to_X11_210_265 ht hl.1 dX11_changed_17 dX11_changed_20 dX11_changed_21 dX11_changed_24 dX11_changed_27 ⟨by decide, (Nat.le_of_ble_eq_true rfl), (Nat.le_of_ble_eq_true rfl), (Nat.le_of_ble_eq_true rfl)⟩ ⟨(Nat.le_of_ble_eq_true rfl), (Nat.le_of_ble_eq_true rfl)⟩
  · replace h := oq1 h
    refine lv_ifnonnull (tgt := 28) C.1 C.2.1 dX11_changed_14 (by decide) ?_
    refine lv_aload_n C.1 C.2.1 dX11_changed_28 rfl (lv_at hl 1 rfl) ?_
    replace h := ob h; obtain ⟨p4, ep4, h⟩ := h
    refine sx_getV C hs fo_X11_24 (gR_v ep4) dX11_changed_29 ?_
    refine lv_iload_n C.1 C.2.1 dX11_changed_32 rfl (lv_at hl 3 rfl) ?_
    replace h := ob h; obtain ⟨w5, ew5, h⟩ := h
    refine sx_aald C hs (by decide) rfl ew5 dX11_changed_33 ?_
    replace h := ob h; obtain ⟨p6, rfl, h⟩ := h
    replace h := ob h; obtain ⟨x7, ex7, h⟩ := h
    refine sx_getV C hs fo_X11_226 (gI_v ex7) dX11_changed_34 ?_
    refine lv_aload_n C.1 C.2.1 dX11_changed_37 rfl (lv_at hl 1 rfl) ?_
    replace h := ob h; obtain ⟨p8, ep8, h⟩ := h
    refine sx_getV C hs fo_X11_24 (gR_v ep8) dX11_changed_38 ?_
    refine lv_iload_n C.1 C.2.1 dX11_changed_41 rfl (lv_at hl 2 rfl) ?_
    replace h := ob h; obtain ⟨w9, ew9, h⟩ := h
    refine sx_aald C hs (by decide) rfl ew9 dX11_changed_42 ?_
    replace h := ob h; obtain ⟨p10, rfl, h⟩ := h
    replace h := ob h; obtain ⟨x11, ex11, h⟩ := h
    refine sx_getV C hs fo_X11_226 (gI_v ex11) dX11_changed_43 ?_
    refine lv_isub C.1 C.2.1 dX11_changed_46 ?_
    refine lv_aload C.1 C.2.1 dX11_changed_47 (lv_at hl 0 rfl) ?_
    replace h := ob h; obtain ⟨x12, ex12, h⟩ := h
    refine sx_getV C hs fo_X11_120 (gI_v ex12) dX11_changed_49 ?_
    refine lv_isub C.1 C.2.1 dX11_changed_52 ?_
    replace h := ol h; obtain ⟨x13, ex13, h⟩ := h
    refine sx_nmI ex13 ?_
    refine lv_istore (lv' := [(6, .int x13), (5, .ref p3), (0, .ref a0), (1, .int v1), (2, .int v2), (3, .long v3)]) C.1 C.2.1 dX11_changed_53 hl (by decide) rfl (fun ls hl => ?_)
    replace h := ol h; obtain ⟨τ14, eτ14, h⟩ := h
    refine sx_new C hs no_X11_269 (Nat.le_of_ble_eq_true rfl) (Nat.le_of_ble_eq_true rfl) dX11_changed_55 (fun H hs => ?_)
    replace hs := HS.nm eτ14 hs
    refine lv_dup C.1 C.2.1 dX11_changed_58 rfl ?_
    refine lv_lload_n C.1 C.2.1 dX11_changed_59 rfl (lv_at hl 5 rfl) ?_
    refine lv_aload C.1 C.2.1 dX11_changed_60 (lv_at hl 1 rfl) ?_
    replace h := ob h; obtain ⟨x15, ex15, h⟩ := h
    refine sx_getV C hs fo_X11_127 (gL_v ex15) dX11_changed_62 ?_
    replace h := ob2 h; obtain ⟨x16, τ17, ex16, h⟩ := h
    refine sx_callI (As := [.long v3, .long x15]) (rest := [.ref sz]) C hs (c_X5_init ex16) mo_X5_init q884 rfl hl.1 ⟨⟨(Nat.le_of_ble_eq_true rfl), (Nat.le_of_ble_eq_true rfl)⟩, (Nat.le_of_ble_eq_true rfl), (Nat.le_of_ble_eq_true rfl)⟩ rfl (Nat.le_of_ble_eq_true rfl) dX11_changed_65 (fun H locs hs => ?_)
    refine lv_iload C.1 C.2.1 dX11_changed_68 (lv_at hl 0 rfl) ?_
    refine lv_aload_n C.1 C.2.1 dX11_changed_70 rfl (lv_at hl 2 rfl) ?_
    replace h := ob h; obtain ⟨p18, ep18, h⟩ := h
    refine sx_getV C hs fo_X11_24 (gR_v ep18) dX11_changed_71 ?_
    refine lv_iload_n C.1 C.2.1 dX11_changed_74 rfl (lv_at hl 4 rfl) ?_
    replace h := ob h; obtain ⟨w19, ew19, h⟩ := h
    refine sx_aald C hs (by decide) rfl ew19 dX11_changed_75 ?_
    replace h := ob h; obtain ⟨p20, rfl, h⟩ := h
    replace h := ob h; obtain ⟨x21, ex21, h⟩ := h
    refine sx_getV C hs fo_X11_228 (gI_v ex21) dX11_changed_76 ?_
    replace h := ob h; obtain ⟨⟨⟩, i22, h⟩ := h
    replace h := ob h; obtain ⟨u24, ex23, h⟩ := h
    rcases u24 with j25 | x23
    · replace h := bsl h
      cases h
      refine sx_xcallV (As := [.int x13, .int x21]) (rest := []) C hs (c_X5_shifted hfl ex23) mo_X5_shifted q897 i22 rfl rfl hl.1 ⟨⟨(Nat.le_of_ble_eq_true rfl), (Nat.le_of_ble_eq_true rfl)⟩, (Nat.le_of_ble_eq_true rfl), (Nat.le_of_ble_eq_true rfl)⟩ rfl (Nat.le_of_ble_eq_true rfl) dX11_changed_79 (fun k9 hk9 ce q9 H locs a1 a2 a3 a4 a5 a6 => ?_) (fun vr hv => (inlr hv).elim)
      obtain rfl := Sum.inl.inj hk9
      exact sx_out C ht a1 a2 a3 a4 a5 a6 (Nat.le_of_ble_eq_true rfl) (Nat.le_of_ble_eq_true rfl)
    · replace h := bsr h
      refine sx_xcallV (As := [.int x13, .int x21]) (rest := []) C hs (c_X5_shifted hfl ex23) mo_X5_shifted q897 i22 rfl rfl hl.1 ⟨⟨(Nat.le_of_ble_eq_true rfl), (Nat.le_of_ble_eq_true rfl)⟩, (Nat.le_of_ble_eq_true rfl), (Nat.le_of_ble_eq_true rfl)⟩ rfl (Nat.le_of_ble_eq_true rfl) dX11_changed_79 (fun k9 hk9 => (inrl hk9).elim) (fun vr hv H locs hs => ?_)
      obtain rfl := Sum.inr.inj hv
      refine W.eq (g2 := F0 m 82 ls [.long x23]) rfl ?_
      refine W.widen (k := 1) (n := 2) (Nat.le_of_ble_eq_true rfl) (Nat.le_of_ble_eq_true rfl) ?_
      cases h
      refine W.widen (k := 2) (n := 8) (Nat.le_of_ble_eq_true rfl) (Nat.le_of_ble_eq_true rfl) ?_
      exact sx_lretX C hs hr dX11_changed_82
def f_X11_change (σ : Sto) (sz : Nat) (a0 : Nat) (v1 : Int32) (v2 : Int32) (v3 : Int64) : Option ((Nat ⊕ Int64) × Sto × Nat) :=
 (isO σ a0 10).bind fun _ =>
 (f_X11_checkChange a0 v1 v2 v3).bind fun u3 =>
 bs u3 (fun j4 => some (.inl j4, σ, sz)) fun x2 =>
 b3 (f_X11_changed σ sz a0 v1 v2 v3) fun u8 τ6 y7 =>
 bs u8 (fun j9 => some (.inl j9, τ6, y7)) fun x5 =>
 some (.inr x5, τ6, y7)
set_option maxHeartbeats 4000000 in
set_option maxRecDepth 100000 in
theorem c_X11_change {l : Launch} (hfl : l.stackTraces = false) {g : PP} {σ : Sto} {sz : Nat} {a0 : Nat} {v1 : Int32} {v2 : Int32} {v3 : Int64} {r9 : Nat ⊕ Int64} {σ9 : Sto} {sz9 : Nat} (h : f_X11_change σ sz a0 v1 v2 v3 = some (r9, σ9, sz9)) : vx_Met l yX11_change [Cond.code yX11_change cX11_change 5 (some .long)] (rmk 11 2 8 220) (Pre g σ sz [.ref a0, .int v1, .int v2, .long v3]) (PstX g (Sum.map id vL r9) σ9 sz9) (XpX g (Sum.map id vL r9) σ9 sz9) 2 8 (Aw g) := by
  refine vx_ofW (cc := cX11_change) (maxL := 5) (ret := (some .long)) (by decide) rfl ?_
  intro p e s m args below meth c s₁ B hml ht hv
  obtain ⟨rfl, C, hs⟩ := ctx_of B hml hv
  have C : Cx g p s m meth c cX11_change 5 "Tillhouse" := C
  have hr := B.returns
  have hl := lv_entry ([.ref a0, .int v1, .int v2, .long v3]) (n := 5) (Nat.le_of_ble_eq_true rfl)
  rw [lg_entry_eq]
  generalize (lg_sl ([.ref a0, .int v1, .int v2, .long v3]) ++ List.replicate (5 - (lg_sl ([.ref a0, .int v1, .int v2, .long v3])).length) Slot.unset).toArray = ls at hl ⊢
  have hl : lv_has ls 5 [(0, .ref a0), (1, .int v1), (2, .int v2), (3, .long v3)] := hl
  unfold f_X11_change at h
  refine lv_aload_n C.1 C.2.1 dX11_change_0 rfl (lv_at hl 0 rfl) ?_
  refine lv_iload_n C.1 C.2.1 dX11_change_1 rfl (lv_at hl 1 rfl) ?_
  refine lv_iload_n C.1 C.2.1 dX11_change_2 rfl (lv_at hl 2 rfl) ?_
  refine lv_lload_n C.1 C.2.1 dX11_change_3 rfl (lv_at hl 3 rfl) ?_
  replace h := ob h; obtain ⟨⟨⟩, i1, h⟩ := h
  replace h := ob h; obtain ⟨u3, ex2, h⟩ := h
  rcases u3 with j4 | x2
  · replace h := bsl h
    cases h
    refine sx_xcallV (As := [.int v1, .int v2, .long v3]) (rest := []) C hs (c_X11_checkChange hfl ex2) mo_X11_checkChange q872 i1 rfl rfl hl.1 ⟨⟨(Nat.le_of_ble_eq_true rfl), (Nat.le_of_ble_eq_true rfl)⟩, (Nat.le_of_ble_eq_true rfl), (Nat.le_of_ble_eq_true rfl)⟩ rfl (Nat.le_of_ble_eq_true rfl) dX11_change_4 (fun k9 hk9 ce q9 H locs a1 a2 a3 a4 a5 a6 => ?_) (fun vr hv => (inlr hv).elim)
    obtain rfl := Sum.inl.inj hk9
    exact sx_out C ht a1 a2 a3 a4 a5 a6 (Nat.le_of_ble_eq_true rfl) (Nat.le_of_ble_eq_true rfl)
  · replace h := bsr h
    refine sx_xcallV (As := [.int v1, .int v2, .long v3]) (rest := []) C hs (c_X11_checkChange hfl ex2) mo_X11_checkChange q872 i1 rfl rfl hl.1 ⟨⟨(Nat.le_of_ble_eq_true rfl), (Nat.le_of_ble_eq_true rfl)⟩, (Nat.le_of_ble_eq_true rfl), (Nat.le_of_ble_eq_true rfl)⟩ rfl (Nat.le_of_ble_eq_true rfl) dX11_change_4 (fun k9 hk9 => (inrl hk9).elim) (fun vr hv H locs hs => ?_)
    obtain rfl := Sum.inr.inj hv
    refine W.eq (g2 := F0 m 7 ls []) rfl ?_
    refine W.widen (k := 0) (n := 0) (Nat.le_of_ble_eq_true rfl) (Nat.le_of_ble_eq_true rfl) ?_
    refine lv_aload_n C.1 C.2.1 dX11_change_7 rfl (lv_at hl 0 rfl) ?_
    refine lv_iload_n C.1 C.2.1 dX11_change_8 rfl (lv_at hl 1 rfl) ?_
    refine lv_iload_n C.1 C.2.1 dX11_change_9 rfl (lv_at hl 2 rfl) ?_
    refine lv_lload_n C.1 C.2.1 dX11_change_10 rfl (lv_at hl 3 rfl) ?_
    replace h := ob3 h; obtain ⟨u8, τ6, y7, ex5, h⟩ := h
    rcases u8 with j9 | x5
    · replace h := bsl h
      cases h
      refine sx_xcallV (As := [.int v1, .int v2, .long v3]) (rest := []) C hs (c_X11_changed hfl ex5) mo_X11_changed q877 i1 rfl rfl hl.1 ⟨⟨(Nat.le_of_ble_eq_true rfl), (Nat.le_of_ble_eq_true rfl)⟩, (Nat.le_of_ble_eq_true rfl), (Nat.le_of_ble_eq_true rfl)⟩ rfl (Nat.le_of_ble_eq_true rfl) dX11_change_11 (fun k9 hk9 ce q9 H locs a1 a2 a3 a4 a5 a6 => ?_) (fun vr hv => (inlr hv).elim)
      obtain rfl := Sum.inl.inj hk9
      exact sx_out C ht a1 a2 a3 a4 a5 a6 (Nat.le_of_ble_eq_true rfl) (Nat.le_of_ble_eq_true rfl)
    · replace h := bsr h
      refine sx_xcallV (As := [.int v1, .int v2, .long v3]) (rest := []) C hs (c_X11_changed hfl ex5) mo_X11_changed q877 i1 rfl rfl hl.1 ⟨⟨(Nat.le_of_ble_eq_true rfl), (Nat.le_of_ble_eq_true rfl)⟩, (Nat.le_of_ble_eq_true rfl), (Nat.le_of_ble_eq_true rfl)⟩ rfl (Nat.le_of_ble_eq_true rfl) dX11_change_11 (fun k9 hk9 => (inrl hk9).elim) (fun vr hv H locs hs => ?_)
      obtain rfl := Sum.inr.inj hv
      refine W.eq (g2 := F0 m 14 ls [.long x5]) rfl ?_
      refine W.widen (k := 2) (n := 8) (Nat.le_of_ble_eq_true rfl) (Nat.le_of_ble_eq_true rfl) ?_
      cases h
      exact sx_lretX C hs hr dX11_change_14
def f_X11_checkRate (σ : Sto) (a0 : Nat) (v1 : Int32) (v2 : Int32) : Option ((Nat ⊕ Unit)) :=
 (isO σ a0 10).bind fun _ =>
 (f_X11_hasRate σ a0 v1 v2).bind fun x2 =>
 if x2 = 0 then
 some (.inl 2)
 else
 some (.inr ())
set_option maxHeartbeats 4000000 in
set_option maxRecDepth 100000 in
theorem c_X11_checkRate {l : Launch} (hfl : l.stackTraces = false) {g : PP} {σ : Sto} {sz : Nat} {a0 : Nat} {v1 : Int32} {v2 : Int32} {r9 : Nat ⊕ Unit} (h : f_X11_checkRate σ a0 v1 v2 = some r9) : vx_Met l yX11_checkRate [Cond.code yX11_checkRate cX11_checkRate 3 none] (rmk 6 (cX r9) (cY r9) 100) (Pre g σ sz [.ref a0, .int v1, .int v2]) (PstX g (Sum.map id vV r9) σ sz) (XpX g (Sum.map id vV r9) σ sz) (cX r9) (cY r9) (Aw g) := by
  refine vx_ofW (cc := cX11_checkRate) (maxL := 3) (ret := none) (by decide) rfl ?_
  intro p e s m args below meth c s₁ B hml ht hv
  obtain ⟨rfl, C, hs⟩ := ctx_of B hml hv
  have C : Cx g p s m meth c cX11_checkRate 3 "Tillhouse" := C
  have hr := B.returns
  have hl := lv_entry ([.ref a0, .int v1, .int v2]) (n := 3) (Nat.le_of_ble_eq_true rfl)
  rw [lg_entry_eq]
  generalize (lg_sl ([.ref a0, .int v1, .int v2]) ++ List.replicate (3 - (lg_sl ([.ref a0, .int v1, .int v2])).length) Slot.unset).toArray = ls at hl ⊢
  have hl : lv_has ls 3 [(0, .ref a0), (1, .int v1), (2, .int v2)] := hl
  unfold f_X11_checkRate at h
  refine lv_aload_n C.1 C.2.1 dX11_checkRate_0 rfl (lv_at hl 0 rfl) ?_
  refine lv_iload_n C.1 C.2.1 dX11_checkRate_1 rfl (lv_at hl 1 rfl) ?_
  refine lv_iload_n C.1 C.2.1 dX11_checkRate_2 rfl (lv_at hl 2 rfl) ?_
  replace h := ob h; obtain ⟨⟨⟩, i1, h⟩ := h
  replace h := ob h; obtain ⟨x2, ex2, h⟩ := h
  refine sx_callV (As := [.int v1, .int v2]) (rest := []) C hs (c_X11_hasRate ex2) mo_X11_hasRate q861 i1 rfl rfl hl.1 ⟨⟨(Nat.le_of_ble_eq_true rfl), (Nat.le_of_ble_eq_true rfl)⟩, (Nat.le_of_ble_eq_true rfl), (Nat.le_of_ble_eq_true rfl)⟩ rfl (Nat.le_of_ble_eq_true rfl) dX11_checkRate_3 (fun H locs hs => ?_)
  refine W.eq (g2 := F0 m 6 ls [.int x2]) rfl ?_
  refine lv_if_ne (tgt := 20) C.1 C.2.1 dX11_checkRate_6 (by decide) (fun c3 => ?_) (fun c3 => ?_)
  · replace h := iN c3 h
    cases h
    exact sx_vretX C hs hr dX11_checkRate_20
  · replace h := ip c3 h
    cases h
    exact sx_throwNW C hfl hs to_X11_210_265 ht hl.1 dX11_checkRate_9 dX11_checkRate_12 dX11_checkRate_13 dX11_checkRate_16 dX11_checkRate_19 ⟨by decide, (Nat.le_of_ble_eq_true rfl), (Nat.le_of_ble_eq_true rfl), (Nat.le_of_ble_eq_true rfl)⟩ ⟨(Nat.le_of_ble_eq_true rfl), (Nat.le_of_ble_eq_true rfl)⟩
def f_X11_lost (σ : Sto) (sz : Nat) (a0 : Nat) (v1 : Int32) (v2 : Int32) (v3 : Int64) : Option ((Nat ⊕ Int64) × Sto × Nat) :=
 (isO σ a0 10).bind fun _ =>
 (f_X11_checkChange a0 v1 v2 v3).bind fun u3 =>
 bs u3 (fun j4 => some (.inl j4, σ, sz)) fun x2 =>
 (f_X11_checkRate σ a0 v2 v1).bind fun u6 =>
 bs u6 (fun j7 => some (.inl j7, σ, sz)) fun x5 =>
 b3 (f_X11_changed σ sz a0 v1 v2 v3) fun u11 τ9 y10 =>
 bs u11 (fun j12 => some (.inl j12, τ9, y10)) fun x8 =>
 (isO τ9 a0 10).bind fun _ =>
 b3 (f_X11_changed τ9 y10 a0 v2 v1 x8) fun u17 τ15 y16 =>
 bs u17 (fun j18 => some (.inl j18, τ15, y16)) fun x14 =>
 some (.inr (v3 - x14), τ15, y16)
set_option maxHeartbeats 4000000 in
set_option maxRecDepth 100000 in
theorem c_X11_lost {l : Launch} (hfl : l.stackTraces = false) {g : PP} {σ : Sto} {sz : Nat} {a0 : Nat} {v1 : Int32} {v2 : Int32} {v3 : Int64} {r9 : Nat ⊕ Int64} {σ9 : Sto} {sz9 : Nat} (h : f_X11_lost σ sz a0 v1 v2 v3 = some (r9, σ9, sz9)) : vx_Met l yX11_lost [Cond.code yX11_lost cX11_lost 5 (some .long)] (rmk 11 4 16 220) (Pre g σ sz [.ref a0, .int v1, .int v2, .long v3]) (PstX g (Sum.map id vL r9) σ9 sz9) (XpX g (Sum.map id vL r9) σ9 sz9) 4 16 (Aw g) := by
  refine vx_ofW (cc := cX11_lost) (maxL := 5) (ret := (some .long)) (by decide) rfl ?_
  intro p e s m args below meth c s₁ B hml ht hv
  obtain ⟨rfl, C, hs⟩ := ctx_of B hml hv
  have C : Cx g p s m meth c cX11_lost 5 "Tillhouse" := C
  have hr := B.returns
  have hl := lv_entry ([.ref a0, .int v1, .int v2, .long v3]) (n := 5) (Nat.le_of_ble_eq_true rfl)
  rw [lg_entry_eq]
  generalize (lg_sl ([.ref a0, .int v1, .int v2, .long v3]) ++ List.replicate (5 - (lg_sl ([.ref a0, .int v1, .int v2, .long v3])).length) Slot.unset).toArray = ls at hl ⊢
  have hl : lv_has ls 5 [(0, .ref a0), (1, .int v1), (2, .int v2), (3, .long v3)] := hl
  unfold f_X11_lost at h
  refine lv_aload_n C.1 C.2.1 dX11_lost_0 rfl (lv_at hl 0 rfl) ?_
  refine lv_iload_n C.1 C.2.1 dX11_lost_1 rfl (lv_at hl 1 rfl) ?_
  refine lv_iload_n C.1 C.2.1 dX11_lost_2 rfl (lv_at hl 2 rfl) ?_
  refine lv_lload_n C.1 C.2.1 dX11_lost_3 rfl (lv_at hl 3 rfl) ?_
  replace h := ob h; obtain ⟨⟨⟩, i1, h⟩ := h
  replace h := ob h; obtain ⟨u3, ex2, h⟩ := h
  rcases u3 with j4 | x2
  · replace h := bsl h
    cases h
    refine sx_xcallV (As := [.int v1, .int v2, .long v3]) (rest := []) C hs (c_X11_checkChange hfl ex2) mo_X11_checkChange q872 i1 rfl rfl hl.1 ⟨⟨(Nat.le_of_ble_eq_true rfl), (Nat.le_of_ble_eq_true rfl)⟩, (Nat.le_of_ble_eq_true rfl), (Nat.le_of_ble_eq_true rfl)⟩ rfl (Nat.le_of_ble_eq_true rfl) dX11_lost_4 (fun k9 hk9 ce q9 H locs a1 a2 a3 a4 a5 a6 => ?_) (fun vr hv => (inlr hv).elim)
    obtain rfl := Sum.inl.inj hk9
    exact sx_out C ht a1 a2 a3 a4 a5 a6 (Nat.le_of_ble_eq_true rfl) (Nat.le_of_ble_eq_true rfl)
  · replace h := bsr h
    refine sx_xcallV (As := [.int v1, .int v2, .long v3]) (rest := []) C hs (c_X11_checkChange hfl ex2) mo_X11_checkChange q872 i1 rfl rfl hl.1 ⟨⟨(Nat.le_of_ble_eq_true rfl), (Nat.le_of_ble_eq_true rfl)⟩, (Nat.le_of_ble_eq_true rfl), (Nat.le_of_ble_eq_true rfl)⟩ rfl (Nat.le_of_ble_eq_true rfl) dX11_lost_4 (fun k9 hk9 => (inrl hk9).elim) (fun vr hv H locs hs => ?_)
    obtain rfl := Sum.inr.inj hv
    refine W.eq (g2 := F0 m 7 ls []) rfl ?_
    refine W.widen (k := 0) (n := 0) (Nat.le_of_ble_eq_true rfl) (Nat.le_of_ble_eq_true rfl) ?_
    refine lv_aload_n C.1 C.2.1 dX11_lost_7 rfl (lv_at hl 0 rfl) ?_
    refine lv_iload_n C.1 C.2.1 dX11_lost_8 rfl (lv_at hl 2 rfl) ?_
    refine lv_iload_n C.1 C.2.1 dX11_lost_9 rfl (lv_at hl 1 rfl) ?_
    replace h := ob h; obtain ⟨u6, ex5, h⟩ := h
    rcases u6 with j7 | x5
    · replace h := bsl h
      cases h
      refine sx_xcallV (As := [.int v2, .int v1]) (rest := []) C hs (c_X11_checkRate hfl ex5) mo_X11_checkRate q928 i1 rfl rfl hl.1 ⟨⟨(Nat.le_of_ble_eq_true rfl), (Nat.le_of_ble_eq_true rfl)⟩, (Nat.le_of_ble_eq_true rfl), (Nat.le_of_ble_eq_true rfl)⟩ rfl (Nat.le_of_ble_eq_true rfl) dX11_lost_10 (fun k9 hk9 ce q9 H locs a1 a2 a3 a4 a5 a6 => ?_) (fun vr hv => (inlr hv).elim)
      obtain rfl := Sum.inl.inj hk9
      exact sx_out C ht a1 a2 a3 a4 a5 a6 (Nat.le_of_ble_eq_true rfl) (Nat.le_of_ble_eq_true rfl)
    · replace h := bsr h
      refine sx_xcallV (As := [.int v2, .int v1]) (rest := []) C hs (c_X11_checkRate hfl ex5) mo_X11_checkRate q928 i1 rfl rfl hl.1 ⟨⟨(Nat.le_of_ble_eq_true rfl), (Nat.le_of_ble_eq_true rfl)⟩, (Nat.le_of_ble_eq_true rfl), (Nat.le_of_ble_eq_true rfl)⟩ rfl (Nat.le_of_ble_eq_true rfl) dX11_lost_10 (fun k9 hk9 => (inrl hk9).elim) (fun vr hv H locs hs => ?_)
      obtain rfl := Sum.inr.inj hv
      refine W.eq (g2 := F0 m 13 ls []) rfl ?_
      refine W.widen (k := 0) (n := 0) (Nat.le_of_ble_eq_true rfl) (Nat.le_of_ble_eq_true rfl) ?_
      refine lv_lload_n C.1 C.2.1 dX11_lost_13 rfl (lv_at hl 3 rfl) ?_
      refine lv_aload_n C.1 C.2.1 dX11_lost_14 rfl (lv_at hl 0 rfl) ?_
      refine lv_iload_n C.1 C.2.1 dX11_lost_15 rfl (lv_at hl 2 rfl) ?_
      refine lv_iload_n C.1 C.2.1 dX11_lost_16 rfl (lv_at hl 1 rfl) ?_
      refine lv_aload_n C.1 C.2.1 dX11_lost_17 rfl (lv_at hl 0 rfl) ?_
      refine lv_iload_n C.1 C.2.1 dX11_lost_18 rfl (lv_at hl 1 rfl) ?_
      refine lv_iload_n C.1 C.2.1 dX11_lost_19 rfl (lv_at hl 2 rfl) ?_
      refine lv_lload_n C.1 C.2.1 dX11_lost_20 rfl (lv_at hl 3 rfl) ?_
      replace h := ob3 h; obtain ⟨u11, τ9, y10, ex8, h⟩ := h
      rcases u11 with j12 | x8
      · replace h := bsl h
        cases h
        refine sx_xcallV (As := [.int v1, .int v2, .long v3]) (rest := [.int v1, .int v2, .ref a0, .long v3]) C hs (c_X11_changed hfl ex8) mo_X11_changed q877 i1 rfl rfl hl.1 ⟨⟨(Nat.le_of_ble_eq_true rfl), (Nat.le_of_ble_eq_true rfl)⟩, (Nat.le_of_ble_eq_true rfl), (Nat.le_of_ble_eq_true rfl)⟩ rfl (Nat.le_of_ble_eq_true rfl) dX11_lost_21 (fun k9 hk9 ce q9 H locs a1 a2 a3 a4 a5 a6 => ?_) (fun vr hv => (inlr hv).elim)
        obtain rfl := Sum.inl.inj hk9
        exact sx_out C ht a1 a2 a3 a4 a5 a6 (Nat.le_of_ble_eq_true rfl) (Nat.le_of_ble_eq_true rfl)
      · replace h := bsr h
        refine sx_xcallV (As := [.int v1, .int v2, .long v3]) (rest := [.int v1, .int v2, .ref a0, .long v3]) C hs (c_X11_changed hfl ex8) mo_X11_changed q877 i1 rfl rfl hl.1 ⟨⟨(Nat.le_of_ble_eq_true rfl), (Nat.le_of_ble_eq_true rfl)⟩, (Nat.le_of_ble_eq_true rfl), (Nat.le_of_ble_eq_true rfl)⟩ rfl (Nat.le_of_ble_eq_true rfl) dX11_lost_21 (fun k9 hk9 => (inrl hk9).elim) (fun vr hv H locs hs => ?_)
        obtain rfl := Sum.inr.inj hv
        refine W.eq (g2 := F0 m 24 ls [.long x8, .int v1, .int v2, .ref a0, .long v3]) rfl ?_
        refine W.widen (k := 2) (n := 8) (Nat.le_of_ble_eq_true rfl) (Nat.le_of_ble_eq_true rfl) ?_
        replace h := ob h; obtain ⟨⟨⟩, i13, h⟩ := h
        replace h := ob3 h; obtain ⟨u17, τ15, y16, ex14, h⟩ := h
        rcases u17 with j18 | x14
        · replace h := bsl h
          cases h
          refine sx_xcallV (As := [.int v2, .int v1, .long x8]) (rest := [.long v3]) C hs (c_X11_changed hfl ex14) mo_X11_changed q877 i13 rfl rfl hl.1 ⟨⟨(Nat.le_of_ble_eq_true rfl), (Nat.le_of_ble_eq_true rfl)⟩, (Nat.le_of_ble_eq_true rfl), (Nat.le_of_ble_eq_true rfl)⟩ rfl (Nat.le_of_ble_eq_true rfl) dX11_lost_24 (fun k9 hk9 ce q9 H locs a1 a2 a3 a4 a5 a6 => ?_) (fun vr hv => (inlr hv).elim)
          obtain rfl := Sum.inl.inj hk9
          exact sx_out C ht a1 a2 a3 a4 a5 a6 (Nat.le_of_ble_eq_true rfl) (Nat.le_of_ble_eq_true rfl)
        · replace h := bsr h
          refine sx_xcallV (As := [.int v2, .int v1, .long x8]) (rest := [.long v3]) C hs (c_X11_changed hfl ex14) mo_X11_changed q877 i13 rfl rfl hl.1 ⟨⟨(Nat.le_of_ble_eq_true rfl), (Nat.le_of_ble_eq_true rfl)⟩, (Nat.le_of_ble_eq_true rfl), (Nat.le_of_ble_eq_true rfl)⟩ rfl (Nat.le_of_ble_eq_true rfl) dX11_lost_24 (fun k9 hk9 => (inrl hk9).elim) (fun vr hv H locs hs => ?_)
          obtain rfl := Sum.inr.inj hv
          refine W.eq (g2 := F0 m 27 ls [.long x14, .long v3]) rfl ?_
          refine W.widen (k := 4) (n := 16) (Nat.le_of_ble_eq_true rfl) (Nat.le_of_ble_eq_true rfl) ?_
          refine lv_lsub C.1 C.2.1 dX11_lost_27 ?_
          cases h
          exact sx_lretX C hs hr dX11_lost_28
def f_X11_checkKind (v0 : Int32) : Option ((Nat ⊕ Unit)) :=
 if v0 < 0 then
 some (.inl 0)
 else
 if v0 < 6 then
 some (.inr ())
 else
 some (.inl 0)
set_option maxHeartbeats 4000000 in
set_option maxRecDepth 100000 in
theorem c_X11_checkKind {l : Launch} (hfl : l.stackTraces = false) {g : PP} {σ : Sto} {sz : Nat} {v0 : Int32} {r9 : Nat ⊕ Unit} (h : f_X11_checkKind v0 = some r9) : vx_Met l yX11_checkKind [Cond.code yX11_checkKind cX11_checkKind 1 none] (rmk 6 (cX r9) (cY r9) 100) (Pre g σ sz [.int v0]) (PstX g (Sum.map id vV r9) σ sz) (XpX g (Sum.map id vV r9) σ sz) (cX r9) (cY r9) (Aw g) := by
  refine vx_ofW (cc := cX11_checkKind) (maxL := 1) (ret := none) (by decide) rfl ?_
  intro p e s m args below meth c s₁ B hml ht hv
  obtain ⟨rfl, C, hs⟩ := ctx_of B hml hv
  have C : Cx g p s m meth c cX11_checkKind 1 "Tillhouse" := C
  have hr := B.returns
  have hl := lv_entry ([.int v0]) (n := 1) (Nat.le_of_ble_eq_true rfl)
  rw [lg_entry_eq]
  generalize (lg_sl ([.int v0]) ++ List.replicate (1 - (lg_sl ([.int v0])).length) Slot.unset).toArray = ls at hl ⊢
  have hl : lv_has ls 1 [(0, .int v0)] := hl
  unfold f_X11_checkKind at h
  refine lv_iload_n C.1 C.2.1 dX11_checkKind_0 rfl (lv_at hl 0 rfl) ?_
  refine lv_if_lt (tgt := 10) C.1 C.2.1 dX11_checkKind_1 (by decide) (fun c1 => ?_) (fun c1 => ?_)
  · replace h := ip c1 h
    cases h
    exact sx_throwW C hfl hs to_X11_195_295 ht hl.1 dX11_checkKind_10 dX11_checkKind_13 dX11_checkKind_14 dX11_checkKind_17 dX11_checkKind_20 ⟨by decide, (Nat.le_of_ble_eq_true rfl), (Nat.le_of_ble_eq_true rfl), (Nat.le_of_ble_eq_true rfl)⟩ ⟨(Nat.le_of_ble_eq_true rfl), (Nat.le_of_ble_eq_true rfl)⟩
  · replace h := iN c1 h
    refine lv_iload_n C.1 C.2.1 dX11_checkKind_4 rfl (lv_at hl 0 rfl) ?_
    refine lv_bipush (v := 6) C.1 C.2.1 dX11_checkKind_5 (by decide) ?_
    refine lv_icmp_lt (tgt := 21) C.1 C.2.1 dX11_checkKind_7 (by decide) (fun c2 => ?_) (fun c2 => ?_)
    · replace h := ip c2 h
      cases h
      exact sx_vretX C hs hr dX11_checkKind_21
    · replace h := iN c2 h
      cases h
      exact sx_throwW C hfl hs to_X11_195_295 ht hl.1 dX11_checkKind_10 dX11_checkKind_13 dX11_checkKind_14 dX11_checkKind_17 dX11_checkKind_20 ⟨by decide, (Nat.le_of_ble_eq_true rfl), (Nat.le_of_ble_eq_true rfl), (Nat.le_of_ble_eq_true rfl)⟩ ⟨(Nat.le_of_ble_eq_true rfl), (Nat.le_of_ble_eq_true rfl)⟩
def f_X11_setTax (N : Nat) (σ : Sto) (sz : Nat) (a0 : Nat) (v1 : Int32) (v2 : Int32) (v3 : Int32) : Option ((Nat ⊕ Int32) × Sto × Nat) :=
 (f_X11_checkKind v1).bind fun u2 =>
 bs u2 (fun j3 => some (.inl j3, σ, sz)) fun x1 =>
 (f_X11_checkRange (Int32.toInt64 v2) 0 9999).bind fun u5 =>
 bs u5 (fun j6 => some (.inl j6, σ, sz)) fun x4 =>
 (f_X11_checkRange (Int32.toInt64 v3) 0 9999).bind fun u8 =>
 bs u8 (fun j9 => some (.inl j9, σ, sz)) fun x7 =>
 (gR σ a0 10 4).bind fun p10 =>
 (aQ σ p10 6 v1).bind fun w11 =>
 (w11).bind fun p12 =>
 (isO σ p12 7).bind fun _ =>
 b3 (f_X8_tell N σ sz p12 v2 v3) fun x14 τ15 y16 =>
 some (.inr x14, τ15, y16)
set_option maxHeartbeats 4000000 in
set_option maxRecDepth 100000 in
theorem c_X11_setTax {l : Launch} (hfl : l.stackTraces = false) {g : PP} {N : Nat} {σ : Sto} {sz : Nat} {a0 : Nat} {v1 : Int32} {v2 : Int32} {v3 : Int32} {r9 : Nat ⊕ Int32} {σ9 : Sto} {sz9 : Nat} (h : f_X11_setTax N σ sz a0 v1 v2 v3 = some (r9, σ9, sz9)) : vx_Met l yX11_setTax [Cond.code yX11_setTax cX11_setTax 4 (some .int)] (rmk 7 2 2048 125) (Pre g σ sz [.ref a0, .int v1, .int v2, .int v3]) (PstX g (Sum.map id vI r9) σ9 sz9) (XpX g (Sum.map id vI r9) σ9 sz9) 2 2048 (Aw g) := by
  refine vx_ofW (cc := cX11_setTax) (maxL := 4) (ret := (some .int)) (by decide) rfl ?_
  intro p e s m args below meth c s₁ B hml ht hv
  obtain ⟨rfl, C, hs⟩ := ctx_of B hml hv
  have C : Cx g p s m meth c cX11_setTax 4 "Tillhouse" := C
  have hr := B.returns
  have hl := lv_entry ([.ref a0, .int v1, .int v2, .int v3]) (n := 4) (Nat.le_of_ble_eq_true rfl)
  rw [lg_entry_eq]
  generalize (lg_sl ([.ref a0, .int v1, .int v2, .int v3]) ++ List.replicate (4 - (lg_sl ([.ref a0, .int v1, .int v2, .int v3])).length) Slot.unset).toArray = ls at hl ⊢
  have hl : lv_has ls 4 [(0, .ref a0), (1, .int v1), (2, .int v2), (3, .int v3)] := hl
  unfold f_X11_setTax at h
  refine lv_iload_n C.1 C.2.1 dX11_setTax_0 rfl (lv_at hl 1 rfl) ?_
  replace h := ob h; obtain ⟨u2, ex1, h⟩ := h
  rcases u2 with j3 | x1
  · replace h := bsl h
    cases h
    refine sx_xcallS (As := [.int v1]) (rest := []) C hs (c_X11_checkKind hfl ex1) mo_X11_checkKind q939 rfl hl.1 ⟨⟨(Nat.le_of_ble_eq_true rfl), (Nat.le_of_ble_eq_true rfl)⟩, (Nat.le_of_ble_eq_true rfl), (Nat.le_of_ble_eq_true rfl)⟩ rfl (Nat.le_of_ble_eq_true rfl) dX11_setTax_1 (fun k9 hk9 ce q9 H locs a1 a2 a3 a4 a5 a6 => ?_) (fun vr hv => (inlr hv).elim)
    obtain rfl := Sum.inl.inj hk9
    exact sx_out C ht a1 a2 a3 a4 a5 a6 (Nat.le_of_ble_eq_true rfl) (Nat.le_of_ble_eq_true rfl)
  · replace h := bsr h
    refine sx_xcallS (As := [.int v1]) (rest := []) C hs (c_X11_checkKind hfl ex1) mo_X11_checkKind q939 rfl hl.1 ⟨⟨(Nat.le_of_ble_eq_true rfl), (Nat.le_of_ble_eq_true rfl)⟩, (Nat.le_of_ble_eq_true rfl), (Nat.le_of_ble_eq_true rfl)⟩ rfl (Nat.le_of_ble_eq_true rfl) dX11_setTax_1 (fun k9 hk9 => (inrl hk9).elim) (fun vr hv H locs hs => ?_)
    obtain rfl := Sum.inr.inj hv
    refine W.eq (g2 := F0 m 4 ls []) rfl ?_
    refine W.widen (k := 0) (n := 0) (Nat.le_of_ble_eq_true rfl) (Nat.le_of_ble_eq_true rfl) ?_
    refine lv_iload_n C.1 C.2.1 dX11_setTax_4 rfl (lv_at hl 2 rfl) ?_
    refine lv_i2l (v := Int32.toInt64 v2) C.1 C.2.1 dX11_setTax_5 rfl ?_
    refine lv_lconst (v := 0) C.1 C.2.1 dX11_setTax_6 (by decide) ?_
    refine lv_ldc2 (v := 9999) C.1 C.2.1 C.2.2.2.1 (C.2.2.2.2.1.1 _ q943 _) dX11_setTax_7 ?_
    replace h := ob h; obtain ⟨u5, ex4, h⟩ := h
    rcases u5 with j6 | x4
    · replace h := bsl h
      cases h
      refine sx_xcallS (As := [.long (Int32.toInt64 v2), .long 0, .long 9999]) (rest := []) C hs (c_X11_checkRange hfl ex4) mo_X11_checkRange q842 rfl hl.1 ⟨⟨(Nat.le_of_ble_eq_true rfl), (Nat.le_of_ble_eq_true rfl)⟩, (Nat.le_of_ble_eq_true rfl), (Nat.le_of_ble_eq_true rfl)⟩ rfl (Nat.le_of_ble_eq_true rfl) dX11_setTax_10 (fun k9 hk9 ce q9 H locs a1 a2 a3 a4 a5 a6 => ?_) (fun vr hv => (inlr hv).elim)
      obtain rfl := Sum.inl.inj hk9
      exact sx_out C ht a1 a2 a3 a4 a5 a6 (Nat.le_of_ble_eq_true rfl) (Nat.le_of_ble_eq_true rfl)
    · replace h := bsr h
      refine sx_xcallS (As := [.long (Int32.toInt64 v2), .long 0, .long 9999]) (rest := []) C hs (c_X11_checkRange hfl ex4) mo_X11_checkRange q842 rfl hl.1 ⟨⟨(Nat.le_of_ble_eq_true rfl), (Nat.le_of_ble_eq_true rfl)⟩, (Nat.le_of_ble_eq_true rfl), (Nat.le_of_ble_eq_true rfl)⟩ rfl (Nat.le_of_ble_eq_true rfl) dX11_setTax_10 (fun k9 hk9 => (inrl hk9).elim) (fun vr hv H locs hs => ?_)
      obtain rfl := Sum.inr.inj hv
      refine W.eq (g2 := F0 m 13 ls []) rfl ?_
      refine W.widen (k := 0) (n := 0) (Nat.le_of_ble_eq_true rfl) (Nat.le_of_ble_eq_true rfl) ?_
      refine lv_iload_n C.1 C.2.1 dX11_setTax_13 rfl (lv_at hl 3 rfl) ?_
      refine lv_i2l (v := Int32.toInt64 v3) C.1 C.2.1 dX11_setTax_14 rfl ?_
      refine lv_lconst (v := 0) C.1 C.2.1 dX11_setTax_15 (by decide) ?_
      refine lv_ldc2 (v := 9999) C.1 C.2.1 C.2.2.2.1 (C.2.2.2.2.1.1 _ q943 _) dX11_setTax_16 ?_
      replace h := ob h; obtain ⟨u8, ex7, h⟩ := h
      rcases u8 with j9 | x7
      · replace h := bsl h
        cases h
        refine sx_xcallS (As := [.long (Int32.toInt64 v3), .long 0, .long 9999]) (rest := []) C hs (c_X11_checkRange hfl ex7) mo_X11_checkRange q842 rfl hl.1 ⟨⟨(Nat.le_of_ble_eq_true rfl), (Nat.le_of_ble_eq_true rfl)⟩, (Nat.le_of_ble_eq_true rfl), (Nat.le_of_ble_eq_true rfl)⟩ rfl (Nat.le_of_ble_eq_true rfl) dX11_setTax_19 (fun k9 hk9 ce q9 H locs a1 a2 a3 a4 a5 a6 => ?_) (fun vr hv => (inlr hv).elim)
        obtain rfl := Sum.inl.inj hk9
        exact sx_out C ht a1 a2 a3 a4 a5 a6 (Nat.le_of_ble_eq_true rfl) (Nat.le_of_ble_eq_true rfl)
      · replace h := bsr h
        refine sx_xcallS (As := [.long (Int32.toInt64 v3), .long 0, .long 9999]) (rest := []) C hs (c_X11_checkRange hfl ex7) mo_X11_checkRange q842 rfl hl.1 ⟨⟨(Nat.le_of_ble_eq_true rfl), (Nat.le_of_ble_eq_true rfl)⟩, (Nat.le_of_ble_eq_true rfl), (Nat.le_of_ble_eq_true rfl)⟩ rfl (Nat.le_of_ble_eq_true rfl) dX11_setTax_19 (fun k9 hk9 => (inrl hk9).elim) (fun vr hv H locs hs => ?_)
        obtain rfl := Sum.inr.inj hv
        refine W.eq (g2 := F0 m 22 ls []) rfl ?_
        refine W.widen (k := 0) (n := 0) (Nat.le_of_ble_eq_true rfl) (Nat.le_of_ble_eq_true rfl) ?_
        refine lv_aload_n C.1 C.2.1 dX11_setTax_22 rfl (lv_at hl 0 rfl) ?_
        replace h := ob h; obtain ⟨p10, ep10, h⟩ := h
        refine sx_getV C hs fo_X11_33 (gR_v ep10) dX11_setTax_23 ?_
        refine lv_iload_n C.1 C.2.1 dX11_setTax_26 rfl (lv_at hl 1 rfl) ?_
        replace h := ob h; obtain ⟨w11, ew11, h⟩ := h
        refine sx_aald C hs (by decide) rfl ew11 dX11_setTax_27 ?_
        replace h := ob h; obtain ⟨p12, rfl, h⟩ := h
        refine lv_iload_n C.1 C.2.1 dX11_setTax_28 rfl (lv_at hl 2 rfl) ?_
        refine lv_iload_n C.1 C.2.1 dX11_setTax_29 rfl (lv_at hl 3 rfl) ?_
        replace h := ob h; obtain ⟨⟨⟩, i13, h⟩ := h
        replace h := ob3 h; obtain ⟨x14, τ15, y16, ex14, h⟩ := h
        refine sx_callV (As := [.int v2, .int v3]) (rest := []) C hs (c_X8_tell ex14) mo_X8_tell q944 i13 rfl rfl hl.1 ⟨⟨(Nat.le_of_ble_eq_true rfl), (Nat.le_of_ble_eq_true rfl)⟩, (Nat.le_of_ble_eq_true rfl), (Nat.le_of_ble_eq_true rfl)⟩ rfl (Nat.le_of_ble_eq_true rfl) dX11_setTax_30 (fun H locs hs => ?_)
        refine W.eq (g2 := F0 m 33 ls [.int x14]) rfl ?_
        cases h
        exact sx_iretX C hs hr rfl dX11_setTax_33
def f_X11_tax (N : Nat) (σ : Sto) (a0 : Nat) (v1 : Int32) (v2 : Int32) : Option ((Nat ⊕ Int32)) :=
 (f_X11_checkKind v1).bind fun u2 =>
 bs u2 (fun j3 => some (.inl j3)) fun x1 =>
 (f_X11_checkRange (Int32.toInt64 v2) 0 9999).bind fun u5 =>
 bs u5 (fun j6 => some (.inl j6)) fun x4 =>
 (gR σ a0 10 4).bind fun p7 =>
 (aQ σ p7 6 v1).bind fun w8 =>
 (w8).bind fun p9 =>
 (isO σ p9 7).bind fun _ =>
 (f_X8_amountAt N σ p9 v2).bind fun x11 =>
 some (.inr x11)
set_option maxHeartbeats 4000000 in
set_option maxRecDepth 100000 in
theorem c_X11_tax {l : Launch} (hfl : l.stackTraces = false) {g : PP} {N : Nat} {σ : Sto} {sz : Nat} {a0 : Nat} {v1 : Int32} {v2 : Int32} {r9 : Nat ⊕ Int32} (h : f_X11_tax N σ a0 v1 v2 = some r9) : vx_Met l yX11_tax [Cond.code yX11_tax cX11_tax 3 (some .int)] (rmk 7 (cX r9) (cY r9) 125) (Pre g σ sz [.ref a0, .int v1, .int v2]) (PstX g (Sum.map id vI r9) σ sz) (XpX g (Sum.map id vI r9) σ sz) (cX r9) (cY r9) (Aw g) := by
  refine vx_ofW (cc := cX11_tax) (maxL := 3) (ret := (some .int)) (by decide) rfl ?_
  intro p e s m args below meth c s₁ B hml ht hv
  obtain ⟨rfl, C, hs⟩ := ctx_of B hml hv
  have C : Cx g p s m meth c cX11_tax 3 "Tillhouse" := C
  have hr := B.returns
  have hl := lv_entry ([.ref a0, .int v1, .int v2]) (n := 3) (Nat.le_of_ble_eq_true rfl)
  rw [lg_entry_eq]
  generalize (lg_sl ([.ref a0, .int v1, .int v2]) ++ List.replicate (3 - (lg_sl ([.ref a0, .int v1, .int v2])).length) Slot.unset).toArray = ls at hl ⊢
  have hl : lv_has ls 3 [(0, .ref a0), (1, .int v1), (2, .int v2)] := hl
  unfold f_X11_tax at h
  refine lv_iload_n C.1 C.2.1 dX11_tax_0 rfl (lv_at hl 1 rfl) ?_
  replace h := ob h; obtain ⟨u2, ex1, h⟩ := h
  rcases u2 with j3 | x1
  · replace h := bsl h
    cases h
    refine sx_xcallS (As := [.int v1]) (rest := []) C hs (c_X11_checkKind hfl ex1) mo_X11_checkKind q939 rfl hl.1 ⟨⟨(Nat.le_of_ble_eq_true rfl), (Nat.le_of_ble_eq_true rfl)⟩, (Nat.le_of_ble_eq_true rfl), (Nat.le_of_ble_eq_true rfl)⟩ rfl (Nat.le_of_ble_eq_true rfl) dX11_tax_1 (fun k9 hk9 ce q9 H locs a1 a2 a3 a4 a5 a6 => ?_) (fun vr hv => (inlr hv).elim)
    obtain rfl := Sum.inl.inj hk9
    exact sx_out C ht a1 a2 a3 a4 a5 a6 (Nat.le_of_ble_eq_true rfl) (Nat.le_of_ble_eq_true rfl)
  · replace h := bsr h
    refine sx_xcallS (As := [.int v1]) (rest := []) C hs (c_X11_checkKind hfl ex1) mo_X11_checkKind q939 rfl hl.1 ⟨⟨(Nat.le_of_ble_eq_true rfl), (Nat.le_of_ble_eq_true rfl)⟩, (Nat.le_of_ble_eq_true rfl), (Nat.le_of_ble_eq_true rfl)⟩ rfl (Nat.le_of_ble_eq_true rfl) dX11_tax_1 (fun k9 hk9 => (inrl hk9).elim) (fun vr hv H locs hs => ?_)
    obtain rfl := Sum.inr.inj hv
    refine W.eq (g2 := F0 m 4 ls []) rfl ?_
    refine W.widen (k := 0) (n := 0) (Nat.le_of_ble_eq_true rfl) (Nat.le_of_ble_eq_true rfl) ?_
    refine lv_iload_n C.1 C.2.1 dX11_tax_4 rfl (lv_at hl 2 rfl) ?_
    refine lv_i2l (v := Int32.toInt64 v2) C.1 C.2.1 dX11_tax_5 rfl ?_
    refine lv_lconst (v := 0) C.1 C.2.1 dX11_tax_6 (by decide) ?_
    refine lv_ldc2 (v := 9999) C.1 C.2.1 C.2.2.2.1 (C.2.2.2.2.1.1 _ q943 _) dX11_tax_7 ?_
    replace h := ob h; obtain ⟨u5, ex4, h⟩ := h
    rcases u5 with j6 | x4
    · replace h := bsl h
      cases h
      refine sx_xcallS (As := [.long (Int32.toInt64 v2), .long 0, .long 9999]) (rest := []) C hs (c_X11_checkRange hfl ex4) mo_X11_checkRange q842 rfl hl.1 ⟨⟨(Nat.le_of_ble_eq_true rfl), (Nat.le_of_ble_eq_true rfl)⟩, (Nat.le_of_ble_eq_true rfl), (Nat.le_of_ble_eq_true rfl)⟩ rfl (Nat.le_of_ble_eq_true rfl) dX11_tax_10 (fun k9 hk9 ce q9 H locs a1 a2 a3 a4 a5 a6 => ?_) (fun vr hv => (inlr hv).elim)
      obtain rfl := Sum.inl.inj hk9
      exact sx_out C ht a1 a2 a3 a4 a5 a6 (Nat.le_of_ble_eq_true rfl) (Nat.le_of_ble_eq_true rfl)
    · replace h := bsr h
      refine sx_xcallS (As := [.long (Int32.toInt64 v2), .long 0, .long 9999]) (rest := []) C hs (c_X11_checkRange hfl ex4) mo_X11_checkRange q842 rfl hl.1 ⟨⟨(Nat.le_of_ble_eq_true rfl), (Nat.le_of_ble_eq_true rfl)⟩, (Nat.le_of_ble_eq_true rfl), (Nat.le_of_ble_eq_true rfl)⟩ rfl (Nat.le_of_ble_eq_true rfl) dX11_tax_10 (fun k9 hk9 => (inrl hk9).elim) (fun vr hv H locs hs => ?_)
      obtain rfl := Sum.inr.inj hv
      refine W.eq (g2 := F0 m 13 ls []) rfl ?_
      refine W.widen (k := 0) (n := 0) (Nat.le_of_ble_eq_true rfl) (Nat.le_of_ble_eq_true rfl) ?_
      refine lv_aload_n C.1 C.2.1 dX11_tax_13 rfl (lv_at hl 0 rfl) ?_
      replace h := ob h; obtain ⟨p7, ep7, h⟩ := h
      refine sx_getV C hs fo_X11_33 (gR_v ep7) dX11_tax_14 ?_
      refine lv_iload_n C.1 C.2.1 dX11_tax_17 rfl (lv_at hl 1 rfl) ?_
      replace h := ob h; obtain ⟨w8, ew8, h⟩ := h
      refine sx_aald C hs (by decide) rfl ew8 dX11_tax_18 ?_
      replace h := ob h; obtain ⟨p9, rfl, h⟩ := h
      refine lv_iload_n C.1 C.2.1 dX11_tax_19 rfl (lv_at hl 2 rfl) ?_
      replace h := ob h; obtain ⟨⟨⟩, i10, h⟩ := h
      replace h := ob h; obtain ⟨x11, ex11, h⟩ := h
      refine sx_callV (As := [.int v2]) (rest := []) C hs (c_X8_amountAt ex11) mo_X8_amountAt q980 i10 rfl rfl hl.1 ⟨⟨(Nat.le_of_ble_eq_true rfl), (Nat.le_of_ble_eq_true rfl)⟩, (Nat.le_of_ble_eq_true rfl), (Nat.le_of_ble_eq_true rfl)⟩ rfl (Nat.le_of_ble_eq_true rfl) dX11_tax_20 (fun H locs hs => ?_)
      refine W.eq (g2 := F0 m 23 ls [.int x11]) rfl ?_
      cases h
      exact sx_iretX C hs hr rfl dX11_tax_23
def f_X11_setDiscount (N : Nat) (σ : Sto) (sz : Nat) (a0 : Nat) (v1 : Int32) (v2 : Int32) (v3 : Int32) : Option ((Nat ⊕ Int32) × Sto × Nat) :=
 (f_X11_checkKind v1).bind fun u2 =>
 bs u2 (fun j3 => some (.inl j3, σ, sz)) fun x1 =>
 (f_X11_checkRange (Int32.toInt64 v2) 1 999999).bind fun u5 =>
 bs u5 (fun j6 => some (.inl j6, σ, sz)) fun x4 =>
 (f_X11_checkRange (Int32.toInt64 v3) 0 999).bind fun u8 =>
 bs u8 (fun j9 => some (.inl j9, σ, sz)) fun x7 =>
 (gR σ a0 10 5).bind fun p10 =>
 (aQ σ p10 6 v1).bind fun w11 =>
 (w11).bind fun p12 =>
 (isO σ p12 7).bind fun _ =>
 b3 (f_X8_tell N σ sz p12 v2 v3) fun x14 τ15 y16 =>
 some (.inr x14, τ15, y16)
set_option maxHeartbeats 4000000 in
set_option maxRecDepth 100000 in
theorem c_X11_setDiscount {l : Launch} (hfl : l.stackTraces = false) {g : PP} {N : Nat} {σ : Sto} {sz : Nat} {a0 : Nat} {v1 : Int32} {v2 : Int32} {v3 : Int32} {r9 : Nat ⊕ Int32} {σ9 : Sto} {sz9 : Nat} (h : f_X11_setDiscount N σ sz a0 v1 v2 v3 = some (r9, σ9, sz9)) : vx_Met l yX11_setDiscount [Cond.code yX11_setDiscount cX11_setDiscount 4 (some .int)] (rmk 7 2 2048 125) (Pre g σ sz [.ref a0, .int v1, .int v2, .int v3]) (PstX g (Sum.map id vI r9) σ9 sz9) (XpX g (Sum.map id vI r9) σ9 sz9) 2 2048 (Aw g) := by
  refine vx_ofW (cc := cX11_setDiscount) (maxL := 4) (ret := (some .int)) (by decide) rfl ?_
  intro p e s m args below meth c s₁ B hml ht hv
  obtain ⟨rfl, C, hs⟩ := ctx_of B hml hv
  have C : Cx g p s m meth c cX11_setDiscount 4 "Tillhouse" := C
  have hr := B.returns
  have hl := lv_entry ([.ref a0, .int v1, .int v2, .int v3]) (n := 4) (Nat.le_of_ble_eq_true rfl)
  rw [lg_entry_eq]
  generalize (lg_sl ([.ref a0, .int v1, .int v2, .int v3]) ++ List.replicate (4 - (lg_sl ([.ref a0, .int v1, .int v2, .int v3])).length) Slot.unset).toArray = ls at hl ⊢
  have hl : lv_has ls 4 [(0, .ref a0), (1, .int v1), (2, .int v2), (3, .int v3)] := hl
  unfold f_X11_setDiscount at h
  refine lv_iload_n C.1 C.2.1 dX11_setDiscount_0 rfl (lv_at hl 1 rfl) ?_
  replace h := ob h; obtain ⟨u2, ex1, h⟩ := h
  rcases u2 with j3 | x1
  · replace h := bsl h
    cases h
    refine sx_xcallS (As := [.int v1]) (rest := []) C hs (c_X11_checkKind hfl ex1) mo_X11_checkKind q939 rfl hl.1 ⟨⟨(Nat.le_of_ble_eq_true rfl), (Nat.le_of_ble_eq_true rfl)⟩, (Nat.le_of_ble_eq_true rfl), (Nat.le_of_ble_eq_true rfl)⟩ rfl (Nat.le_of_ble_eq_true rfl) dX11_setDiscount_1 (fun k9 hk9 ce q9 H locs a1 a2 a3 a4 a5 a6 => ?_) (fun vr hv => (inlr hv).elim)
    obtain rfl := Sum.inl.inj hk9
    exact sx_out C ht a1 a2 a3 a4 a5 a6 (Nat.le_of_ble_eq_true rfl) (Nat.le_of_ble_eq_true rfl)
  · replace h := bsr h
    refine sx_xcallS (As := [.int v1]) (rest := []) C hs (c_X11_checkKind hfl ex1) mo_X11_checkKind q939 rfl hl.1 ⟨⟨(Nat.le_of_ble_eq_true rfl), (Nat.le_of_ble_eq_true rfl)⟩, (Nat.le_of_ble_eq_true rfl), (Nat.le_of_ble_eq_true rfl)⟩ rfl (Nat.le_of_ble_eq_true rfl) dX11_setDiscount_1 (fun k9 hk9 => (inrl hk9).elim) (fun vr hv H locs hs => ?_)
    obtain rfl := Sum.inr.inj hv
    refine W.eq (g2 := F0 m 4 ls []) rfl ?_
    refine W.widen (k := 0) (n := 0) (Nat.le_of_ble_eq_true rfl) (Nat.le_of_ble_eq_true rfl) ?_
    refine lv_iload_n C.1 C.2.1 dX11_setDiscount_4 rfl (lv_at hl 2 rfl) ?_
    refine lv_i2l (v := Int32.toInt64 v2) C.1 C.2.1 dX11_setDiscount_5 rfl ?_
    refine lv_lconst (v := 1) C.1 C.2.1 dX11_setDiscount_6 (by decide) ?_
    refine lv_ldc2 (v := 999999) C.1 C.2.1 C.2.2.2.1 (C.2.2.2.2.1.1 _ q991 _) dX11_setDiscount_7 ?_
    replace h := ob h; obtain ⟨u5, ex4, h⟩ := h
    rcases u5 with j6 | x4
    · replace h := bsl h
      cases h
      refine sx_xcallS (As := [.long (Int32.toInt64 v2), .long 1, .long 999999]) (rest := []) C hs (c_X11_checkRange hfl ex4) mo_X11_checkRange q842 rfl hl.1 ⟨⟨(Nat.le_of_ble_eq_true rfl), (Nat.le_of_ble_eq_true rfl)⟩, (Nat.le_of_ble_eq_true rfl), (Nat.le_of_ble_eq_true rfl)⟩ rfl (Nat.le_of_ble_eq_true rfl) dX11_setDiscount_10 (fun k9 hk9 ce q9 H locs a1 a2 a3 a4 a5 a6 => ?_) (fun vr hv => (inlr hv).elim)
      obtain rfl := Sum.inl.inj hk9
      exact sx_out C ht a1 a2 a3 a4 a5 a6 (Nat.le_of_ble_eq_true rfl) (Nat.le_of_ble_eq_true rfl)
    · replace h := bsr h
      refine sx_xcallS (As := [.long (Int32.toInt64 v2), .long 1, .long 999999]) (rest := []) C hs (c_X11_checkRange hfl ex4) mo_X11_checkRange q842 rfl hl.1 ⟨⟨(Nat.le_of_ble_eq_true rfl), (Nat.le_of_ble_eq_true rfl)⟩, (Nat.le_of_ble_eq_true rfl), (Nat.le_of_ble_eq_true rfl)⟩ rfl (Nat.le_of_ble_eq_true rfl) dX11_setDiscount_10 (fun k9 hk9 => (inrl hk9).elim) (fun vr hv H locs hs => ?_)
      obtain rfl := Sum.inr.inj hv
      refine W.eq (g2 := F0 m 13 ls []) rfl ?_
      refine W.widen (k := 0) (n := 0) (Nat.le_of_ble_eq_true rfl) (Nat.le_of_ble_eq_true rfl) ?_
      refine lv_iload_n C.1 C.2.1 dX11_setDiscount_13 rfl (lv_at hl 3 rfl) ?_
      refine lv_i2l (v := Int32.toInt64 v3) C.1 C.2.1 dX11_setDiscount_14 rfl ?_
      refine lv_lconst (v := 0) C.1 C.2.1 dX11_setDiscount_15 (by decide) ?_
      refine lv_ldc2 (v := 999) C.1 C.2.1 C.2.2.2.1 (C.2.2.2.2.1.1 _ q992 _) dX11_setDiscount_16 ?_
      replace h := ob h; obtain ⟨u8, ex7, h⟩ := h
      rcases u8 with j9 | x7
      · replace h := bsl h
        cases h
        refine sx_xcallS (As := [.long (Int32.toInt64 v3), .long 0, .long 999]) (rest := []) C hs (c_X11_checkRange hfl ex7) mo_X11_checkRange q842 rfl hl.1 ⟨⟨(Nat.le_of_ble_eq_true rfl), (Nat.le_of_ble_eq_true rfl)⟩, (Nat.le_of_ble_eq_true rfl), (Nat.le_of_ble_eq_true rfl)⟩ rfl (Nat.le_of_ble_eq_true rfl) dX11_setDiscount_19 (fun k9 hk9 ce q9 H locs a1 a2 a3 a4 a5 a6 => ?_) (fun vr hv => (inlr hv).elim)
        obtain rfl := Sum.inl.inj hk9
        exact sx_out C ht a1 a2 a3 a4 a5 a6 (Nat.le_of_ble_eq_true rfl) (Nat.le_of_ble_eq_true rfl)
      · replace h := bsr h
        refine sx_xcallS (As := [.long (Int32.toInt64 v3), .long 0, .long 999]) (rest := []) C hs (c_X11_checkRange hfl ex7) mo_X11_checkRange q842 rfl hl.1 ⟨⟨(Nat.le_of_ble_eq_true rfl), (Nat.le_of_ble_eq_true rfl)⟩, (Nat.le_of_ble_eq_true rfl), (Nat.le_of_ble_eq_true rfl)⟩ rfl (Nat.le_of_ble_eq_true rfl) dX11_setDiscount_19 (fun k9 hk9 => (inrl hk9).elim) (fun vr hv H locs hs => ?_)
        obtain rfl := Sum.inr.inj hv
        refine W.eq (g2 := F0 m 22 ls []) rfl ?_
        refine W.widen (k := 0) (n := 0) (Nat.le_of_ble_eq_true rfl) (Nat.le_of_ble_eq_true rfl) ?_
        refine lv_aload_n C.1 C.2.1 dX11_setDiscount_22 rfl (lv_at hl 0 rfl) ?_
        replace h := ob h; obtain ⟨p10, ep10, h⟩ := h
        refine sx_getV C hs fo_X11_37 (gR_v ep10) dX11_setDiscount_23 ?_
        refine lv_iload_n C.1 C.2.1 dX11_setDiscount_26 rfl (lv_at hl 1 rfl) ?_
        replace h := ob h; obtain ⟨w11, ew11, h⟩ := h
        refine sx_aald C hs (by decide) rfl ew11 dX11_setDiscount_27 ?_
        replace h := ob h; obtain ⟨p12, rfl, h⟩ := h
        refine lv_iload_n C.1 C.2.1 dX11_setDiscount_28 rfl (lv_at hl 2 rfl) ?_
        refine lv_iload_n C.1 C.2.1 dX11_setDiscount_29 rfl (lv_at hl 3 rfl) ?_
        replace h := ob h; obtain ⟨⟨⟩, i13, h⟩ := h
        replace h := ob3 h; obtain ⟨x14, τ15, y16, ex14, h⟩ := h
        refine sx_callV (As := [.int v2, .int v3]) (rest := []) C hs (c_X8_tell ex14) mo_X8_tell q944 i13 rfl rfl hl.1 ⟨⟨(Nat.le_of_ble_eq_true rfl), (Nat.le_of_ble_eq_true rfl)⟩, (Nat.le_of_ble_eq_true rfl), (Nat.le_of_ble_eq_true rfl)⟩ rfl (Nat.le_of_ble_eq_true rfl) dX11_setDiscount_30 (fun H locs hs => ?_)
        refine W.eq (g2 := F0 m 33 ls [.int x14]) rfl ?_
        cases h
        exact sx_iretX C hs hr rfl dX11_setDiscount_33
def f_X11_open (σ : Sto) (sz : Nat) (a0 : Nat) (v1 : Int32) (v2 : Int32) (v3 : Int32) : Option ((Nat ⊕ Int32) × Sto × Nat) :=
 (f_X11_checkCurrency v2).bind fun u2 =>
 bs u2 (fun j3 => some (.inl j3, σ, sz)) fun x1 =>
 (f_X11_checkRange (Int32.toInt64 v1) 0 9999).bind fun u5 =>
 bs u5 (fun j6 => some (.inl j6, σ, sz)) fun x4 =>
 (gI σ a0 10 7).bind fun x7 =>
 if x7 < 20 then
 (gR σ a0 10 6).bind fun p9 =>
 (gI σ a0 10 7).bind fun x10 =>
 lt_ (nO σ sz 2 dvX2) fun τ11 =>
 b3 (f_X2_init τ11 (sz + 1) sz v1 v2 v3) fun x12 τ13 y14 =>
 (sQ τ13 p9 7 x10 sz).bind fun τ15 =>
 (gI τ15 a0 10 7).bind fun x16 =>
 (pF τ15 a0 10 7 (.int (x16 + 1))).bind fun τ17 =>
 (gI τ17 a0 10 7).bind fun x18 =>
 some (.inr (x18 - 1), τ17, y14)
 else
 some (.inl 4, σ, sz)
set_option maxHeartbeats 4000000 in
set_option maxRecDepth 100000 in
theorem c_X11_open {l : Launch} (hfl : l.stackTraces = false) {g : PP} {σ : Sto} {sz : Nat} {a0 : Nat} {v1 : Int32} {v2 : Int32} {v3 : Int32} {r9 : Nat ⊕ Int32} {σ9 : Sto} {sz9 : Nat} (h : f_X11_open σ sz a0 v1 v2 v3 = some (r9, σ9, sz9)) : vx_Met l yX11_open [Cond.code yX11_open cX11_open 4 (some .int)] (rmk 7 3 30 125) (Pre g σ sz [.ref a0, .int v1, .int v2, .int v3]) (PstX g (Sum.map id vI r9) σ9 sz9) (XpX g (Sum.map id vI r9) σ9 sz9) 3 30 (Aw g) := by
  refine vx_ofW (cc := cX11_open) (maxL := 4) (ret := (some .int)) (by decide) rfl ?_
  intro p e s m args below meth c s₁ B hml ht hv
  obtain ⟨rfl, C, hs⟩ := ctx_of B hml hv
  have C : Cx g p s m meth c cX11_open 4 "Tillhouse" := C
  have hr := B.returns
  have hl := lv_entry ([.ref a0, .int v1, .int v2, .int v3]) (n := 4) (Nat.le_of_ble_eq_true rfl)
  rw [lg_entry_eq]
  generalize (lg_sl ([.ref a0, .int v1, .int v2, .int v3]) ++ List.replicate (4 - (lg_sl ([.ref a0, .int v1, .int v2, .int v3])).length) Slot.unset).toArray = ls at hl ⊢
  have hl : lv_has ls 4 [(0, .ref a0), (1, .int v1), (2, .int v2), (3, .int v3)] := hl
  unfold f_X11_open at h
  refine lv_iload_n C.1 C.2.1 dX11_open_0 rfl (lv_at hl 2 rfl) ?_
  replace h := ob h; obtain ⟨u2, ex1, h⟩ := h
  rcases u2 with j3 | x1
  · replace h := bsl h
    cases h
    refine sx_xcallS (As := [.int v2]) (rest := []) C hs (c_X11_checkCurrency hfl ex1) mo_X11_checkCurrency q837 rfl hl.1 ⟨⟨(Nat.le_of_ble_eq_true rfl), (Nat.le_of_ble_eq_true rfl)⟩, (Nat.le_of_ble_eq_true rfl), (Nat.le_of_ble_eq_true rfl)⟩ rfl (Nat.le_of_ble_eq_true rfl) dX11_open_1 (fun k9 hk9 ce q9 H locs a1 a2 a3 a4 a5 a6 => ?_) (fun vr hv => (inlr hv).elim)
    obtain rfl := Sum.inl.inj hk9
    exact sx_out C ht a1 a2 a3 a4 a5 a6 (Nat.le_of_ble_eq_true rfl) (Nat.le_of_ble_eq_true rfl)
  · replace h := bsr h
    refine sx_xcallS (As := [.int v2]) (rest := []) C hs (c_X11_checkCurrency hfl ex1) mo_X11_checkCurrency q837 rfl hl.1 ⟨⟨(Nat.le_of_ble_eq_true rfl), (Nat.le_of_ble_eq_true rfl)⟩, (Nat.le_of_ble_eq_true rfl), (Nat.le_of_ble_eq_true rfl)⟩ rfl (Nat.le_of_ble_eq_true rfl) dX11_open_1 (fun k9 hk9 => (inrl hk9).elim) (fun vr hv H locs hs => ?_)
    obtain rfl := Sum.inr.inj hv
    refine W.eq (g2 := F0 m 4 ls []) rfl ?_
    refine W.widen (k := 0) (n := 0) (Nat.le_of_ble_eq_true rfl) (Nat.le_of_ble_eq_true rfl) ?_
    refine lv_iload_n C.1 C.2.1 dX11_open_4 rfl (lv_at hl 1 rfl) ?_
    refine lv_i2l (v := Int32.toInt64 v1) C.1 C.2.1 dX11_open_5 rfl ?_
    refine lv_lconst (v := 0) C.1 C.2.1 dX11_open_6 (by decide) ?_
    refine lv_ldc2 (v := 9999) C.1 C.2.1 C.2.2.2.1 (C.2.2.2.2.1.1 _ q943 _) dX11_open_7 ?_
    replace h := ob h; obtain ⟨u5, ex4, h⟩ := h
    rcases u5 with j6 | x4
    · replace h := bsl h
      cases h
      refine sx_xcallS (As := [.long (Int32.toInt64 v1), .long 0, .long 9999]) (rest := []) C hs (c_X11_checkRange hfl ex4) mo_X11_checkRange q842 rfl hl.1 ⟨⟨(Nat.le_of_ble_eq_true rfl), (Nat.le_of_ble_eq_true rfl)⟩, (Nat.le_of_ble_eq_true rfl), (Nat.le_of_ble_eq_true rfl)⟩ rfl (Nat.le_of_ble_eq_true rfl) dX11_open_10 (fun k9 hk9 ce q9 H locs a1 a2 a3 a4 a5 a6 => ?_) (fun vr hv => (inlr hv).elim)
      obtain rfl := Sum.inl.inj hk9
      exact sx_out C ht a1 a2 a3 a4 a5 a6 (Nat.le_of_ble_eq_true rfl) (Nat.le_of_ble_eq_true rfl)
    · replace h := bsr h
      refine sx_xcallS (As := [.long (Int32.toInt64 v1), .long 0, .long 9999]) (rest := []) C hs (c_X11_checkRange hfl ex4) mo_X11_checkRange q842 rfl hl.1 ⟨⟨(Nat.le_of_ble_eq_true rfl), (Nat.le_of_ble_eq_true rfl)⟩, (Nat.le_of_ble_eq_true rfl), (Nat.le_of_ble_eq_true rfl)⟩ rfl (Nat.le_of_ble_eq_true rfl) dX11_open_10 (fun k9 hk9 => (inrl hk9).elim) (fun vr hv H locs hs => ?_)
      obtain rfl := Sum.inr.inj hv
      refine W.eq (g2 := F0 m 13 ls []) rfl ?_
      refine W.widen (k := 0) (n := 0) (Nat.le_of_ble_eq_true rfl) (Nat.le_of_ble_eq_true rfl) ?_
      refine lv_aload_n C.1 C.2.1 dX11_open_13 rfl (lv_at hl 0 rfl) ?_
      replace h := ob h; obtain ⟨x7, ex7, h⟩ := h
      refine sx_getV C hs fo_X11_46 (gI_v ex7) dX11_open_14 ?_
      refine lv_bipush (v := 20) C.1 C.2.1 dX11_open_17 (by decide) ?_
      refine lv_icmp_lt (tgt := 33) C.1 C.2.1 dX11_open_19 (by decide) (fun c8 => ?_) (fun c8 => ?_)
      · replace h := ip c8 h
        refine lv_aload_n C.1 C.2.1 dX11_open_33 rfl (lv_at hl 0 rfl) ?_
        replace h := ob h; obtain ⟨p9, ep9, h⟩ := h
        refine sx_getV C hs fo_X11_42 (gR_v ep9) dX11_open_34 ?_
        refine lv_aload_n C.1 C.2.1 dX11_open_37 rfl (lv_at hl 0 rfl) ?_
        replace h := ob h; obtain ⟨x10, ex10, h⟩ := h
        refine sx_getV C hs fo_X11_46 (gI_v ex10) dX11_open_38 ?_
        replace h := ol h; obtain ⟨τ11, eτ11, h⟩ := h
        refine sx_new C hs no_X11_40 (Nat.le_of_ble_eq_true rfl) (Nat.le_of_ble_eq_true rfl) dX11_open_41 (fun H hs => ?_)
        replace hs := HS.nm eτ11 hs
        refine lv_dup C.1 C.2.1 dX11_open_44 rfl ?_
        refine lv_iload_n C.1 C.2.1 dX11_open_45 rfl (lv_at hl 1 rfl) ?_
        refine lv_iload_n C.1 C.2.1 dX11_open_46 rfl (lv_at hl 2 rfl) ?_
        refine lv_iload_n C.1 C.2.1 dX11_open_47 rfl (lv_at hl 3 rfl) ?_
        replace h := ob3 h; obtain ⟨x12, τ13, y14, ex12, h⟩ := h
        refine sx_callI (As := [.int v1, .int v2, .int v3]) (rest := [.ref sz, .int x10, .ref p9]) C hs (c_X2_init ex12) mo_X2_init q1002 rfl hl.1 ⟨⟨(Nat.le_of_ble_eq_true rfl), (Nat.le_of_ble_eq_true rfl)⟩, (Nat.le_of_ble_eq_true rfl), (Nat.le_of_ble_eq_true rfl)⟩ rfl (Nat.le_of_ble_eq_true rfl) dX11_open_48 (fun H locs hs => ?_)
        replace h := ob h; obtain ⟨τ15, eτ15, h⟩ := h
        refine sx_aast (r := (RX2, TX2, 6)) C hs (by decide) rfl rfl eτ15 dX11_open_51 (fun H locs hs => ?_)
        refine lv_aload_n C.1 C.2.1 dX11_open_52 rfl (lv_at hl 0 rfl) ?_
        refine lv_dup C.1 C.2.1 dX11_open_53 rfl ?_
        replace h := ob h; obtain ⟨x16, ex16, h⟩ := h
        refine sx_getV C hs fo_X11_46 (gI_v ex16) dX11_open_54 ?_
        refine lv_iconst (v := 1) C.1 C.2.1 dX11_open_57 (by decide) ?_
        refine lv_iadd C.1 C.2.1 dX11_open_58 ?_
        replace h := ob h; obtain ⟨τ17, eτ17, h⟩ := h
        refine sx_put C hs fp_X11_46 rfl rfl eτ17 dX11_open_59 (fun H locs hs => ?_)
        refine lv_aload_n C.1 C.2.1 dX11_open_62 rfl (lv_at hl 0 rfl) ?_
        replace h := ob h; obtain ⟨x18, ex18, h⟩ := h
        refine sx_getV C hs fo_X11_46 (gI_v ex18) dX11_open_63 ?_
        refine lv_iconst (v := 1) C.1 C.2.1 dX11_open_66 (by decide) ?_
        refine lv_isub C.1 C.2.1 dX11_open_67 ?_
        cases h
        exact sx_iretX C hs hr rfl dX11_open_68
      · replace h := iN c8 h
        cases h
        exact sx_throwW C hfl hs to_X11_99_297 ht hl.1 dX11_open_22 dX11_open_25 dX11_open_26 dX11_open_29 dX11_open_32 ⟨by decide, (Nat.le_of_ble_eq_true rfl), (Nat.le_of_ble_eq_true rfl), (Nat.le_of_ble_eq_true rfl)⟩ ⟨(Nat.le_of_ble_eq_true rfl), (Nat.le_of_ble_eq_true rfl)⟩
def f_X11_invoiceAt (σ : Sto) (a0 : Nat) (v1 : Int32) : Option ((Nat ⊕ Nat)) :=
 if v1 < 0 then
 some (.inl 0)
 else
 (gI σ a0 10 7).bind fun x2 =>
 if v1 < x2 then
 (gR σ a0 10 6).bind fun p4 =>
 (aQ σ p4 7 v1).bind fun w5 =>
 (w5).bind fun p6 =>
 some (.inr p6)
 else
 some (.inl 0)
set_option maxHeartbeats 4000000 in
set_option maxRecDepth 100000 in
theorem c_X11_invoiceAt {l : Launch} (hfl : l.stackTraces = false) {g : PP} {σ : Sto} {sz : Nat} {a0 : Nat} {v1 : Int32} {r9 : Nat ⊕ Nat} (h : f_X11_invoiceAt σ a0 v1 = some r9) : vx_Met l yX11_invoiceAt [Cond.code yX11_invoiceAt cX11_invoiceAt 2 (some (.object "Tillhouse$Invoice"))] (rmk 6 (cX r9) (cY r9) 100) (Pre g σ sz [.ref a0, .int v1]) (PstX g (Sum.map id vR r9) σ sz) (XpX g (Sum.map id vR r9) σ sz) (cX r9) (cY r9) (Aw g) := by
  refine vx_ofW (cc := cX11_invoiceAt) (maxL := 2) (ret := (some (.object "Tillhouse$Invoice"))) (by decide) rfl ?_
  intro p e s m args below meth c s₁ B hml ht hv
  obtain ⟨rfl, C, hs⟩ := ctx_of B hml hv
  have C : Cx g p s m meth c cX11_invoiceAt 2 "Tillhouse" := C
  have hr := B.returns
  have hl := lv_entry ([.ref a0, .int v1]) (n := 2) (Nat.le_of_ble_eq_true rfl)
  rw [lg_entry_eq]
  generalize (lg_sl ([.ref a0, .int v1]) ++ List.replicate (2 - (lg_sl ([.ref a0, .int v1])).length) Slot.unset).toArray = ls at hl ⊢
  have hl : lv_has ls 2 [(0, .ref a0), (1, .int v1)] := hl
  unfold f_X11_invoiceAt at h
  refine lv_iload_n C.1 C.2.1 dX11_invoiceAt_0 rfl (lv_at hl 1 rfl) ?_
  refine lv_if_lt (tgt := 12) C.1 C.2.1 dX11_invoiceAt_1 (by decide) (fun c1 => ?_) (fun c1 => ?_)
  · replace h := ip c1 h
    cases h
    exact sx_throwW C hfl hs to_X11_195_352 ht hl.1 dX11_invoiceAt_12 dX11_invoiceAt_15 dX11_invoiceAt_16 dX11_invoiceAt_19 dX11_invoiceAt_22 ⟨by decide, (Nat.le_of_ble_eq_true rfl), (Nat.le_of_ble_eq_true rfl), (Nat.le_of_ble_eq_true rfl)⟩ ⟨(Nat.le_of_ble_eq_true rfl), (Nat.le_of_ble_eq_true rfl)⟩
  · replace h := iN c1 h
    refine lv_iload_n C.1 C.2.1 dX11_invoiceAt_4 rfl (lv_at hl 1 rfl) ?_
    refine lv_aload_n C.1 C.2.1 dX11_invoiceAt_5 rfl (lv_at hl 0 rfl) ?_
    replace h := ob h; obtain ⟨x2, ex2, h⟩ := h
    refine sx_getV C hs fo_X11_46 (gI_v ex2) dX11_invoiceAt_6 ?_
    refine lv_icmp_lt (tgt := 23) C.1 C.2.1 dX11_invoiceAt_9 (by decide) (fun c3 => ?_) (fun c3 => ?_)
    · replace h := ip c3 h
      refine lv_aload_n C.1 C.2.1 dX11_invoiceAt_23 rfl (lv_at hl 0 rfl) ?_
      replace h := ob h; obtain ⟨p4, ep4, h⟩ := h
      refine sx_getV C hs fo_X11_42 (gR_v ep4) dX11_invoiceAt_24 ?_
      refine lv_iload_n C.1 C.2.1 dX11_invoiceAt_27 rfl (lv_at hl 1 rfl) ?_
      replace h := ob h; obtain ⟨w5, ew5, h⟩ := h
      refine sx_aald C hs (by decide) rfl ew5 dX11_invoiceAt_28 ?_
      replace h := ob h; obtain ⟨p6, rfl, h⟩ := h
      cases h
      exact sx_aretX C hs hr (by first | exact Or.inl ⟨_, rfl⟩ | exact Or.inr ⟨_, rfl⟩) dX11_invoiceAt_29
    · replace h := iN c3 h
      cases h
      exact sx_throwW C hfl hs to_X11_195_352 ht hl.1 dX11_invoiceAt_12 dX11_invoiceAt_15 dX11_invoiceAt_16 dX11_invoiceAt_19 dX11_invoiceAt_22 ⟨by decide, (Nat.le_of_ble_eq_true rfl), (Nat.le_of_ble_eq_true rfl), (Nat.le_of_ble_eq_true rfl)⟩ ⟨(Nat.le_of_ble_eq_true rfl), (Nat.le_of_ble_eq_true rfl)⟩
def f_X11_line (N : Nat) (σ : Sto) (a0 : Nat) (v1 : Int32) (v2 : Int32) (v3 : Int32) (v4 : Int32) : Option ((Nat ⊕ Int32) × Sto) :=
 (isO σ a0 10).bind fun _ =>
 (f_X11_invoiceAt σ a0 v1).bind fun u3 =>
 bs u3 (fun j4 => some (.inl j4, σ)) fun p2 =>
 (f_X11_checkKind v2).bind fun u6 =>
 bs u6 (fun j7 => some (.inl j7, σ)) fun x5 =>
 (f_X11_checkRange (Int32.toInt64 v3) 1 999999).bind fun u9 =>
 bs u9 (fun j10 => some (.inl j10, σ)) fun x8 =>
 (f_X11_checkRange (Int32.toInt64 v4) 0 9999999).bind fun u12 =>
 bs u12 (fun j13 => some (.inl j13, σ)) fun x11 =>
 (gR σ a0 10 10).bind fun p14 =>
 (isO σ p14 3).bind fun _ =>
 (f_X3_hasBooking N σ p14 v1).bind fun x16 =>
 if x16 = 0 then
 (isO σ p2 2).bind fun _ =>
 (f_X2_isFull σ p2).bind fun x19 =>
 if x19 = 0 then
 (gR σ a0 10 5).bind fun p21 =>
 (aQ σ p21 6 v2).bind fun w22 =>
 (w22).bind fun p23 =>
 (isO σ p23 7).bind fun _ =>
 (f_X8_amountAt N σ p23 v3).bind fun x25 =>
 lt_ (((Int32.toInt64 v4) * (Int32.toInt64 v3)) * (Int32.toInt64 (1000 - x25))) fun x26 =>
 (gR σ a0 10 4).bind fun p27 =>
 (aQ σ p27 6 v2).bind fun w28 =>
 (w28).bind fun p29 =>
 (gI σ p2 2 0).bind fun x30 =>
 (isO σ p29 7).bind fun _ =>
 (f_X8_amountAt N σ p29 x30).bind fun x32 =>
 b2 (f_X2_add σ p2 x26 x32) fun x33 τ34 =>
 some (.inr x33, τ34)
 else
 some (.inl 4, σ)
 else
 some (.inl 5, σ)
set_option maxHeartbeats 4000000 in
set_option maxRecDepth 100000 in
theorem c_X11_line {l : Launch} (hfl : l.stackTraces = false) {g : PP} {N : Nat} {σ : Sto} {sz : Nat} {a0 : Nat} {v1 : Int32} {v2 : Int32} {v3 : Int32} {v4 : Int32} {r9 : Nat ⊕ Int32} {σ9 : Sto} (h : f_X11_line N σ a0 v1 v2 v3 v4 = some (r9, σ9)) : vx_Met l yX11_line [Cond.code yX11_line cX11_line 9 (some .int)] (rmk 7 (cX r9) (cY r9) 125) (Pre g σ sz [.ref a0, .int v1, .int v2, .int v3, .int v4]) (PstX g (Sum.map id vI r9) σ9 sz) (XpX g (Sum.map id vI r9) σ9 sz) (cX r9) (cY r9) (Aw g) := by
  refine vx_ofW (cc := cX11_line) (maxL := 9) (ret := (some .int)) (by decide) rfl ?_
  intro p e s m args below meth c s₁ B hml ht hv
  obtain ⟨rfl, C, hs⟩ := ctx_of B hml hv
  have C : Cx g p s m meth c cX11_line 9 "Tillhouse" := C
  have hr := B.returns
  have hl := lv_entry ([.ref a0, .int v1, .int v2, .int v3, .int v4]) (n := 9) (Nat.le_of_ble_eq_true rfl)
  rw [lg_entry_eq]
  generalize (lg_sl ([.ref a0, .int v1, .int v2, .int v3, .int v4]) ++ List.replicate (9 - (lg_sl ([.ref a0, .int v1, .int v2, .int v3, .int v4])).length) Slot.unset).toArray = ls at hl ⊢
  have hl : lv_has ls 9 [(0, .ref a0), (1, .int v1), (2, .int v2), (3, .int v3), (4, .int v4)] := hl
  unfold f_X11_line at h
  refine lv_aload_n C.1 C.2.1 dX11_line_0 rfl (lv_at hl 0 rfl) ?_
  refine lv_iload_n C.1 C.2.1 dX11_line_1 rfl (lv_at hl 1 rfl) ?_
  replace h := ob h; obtain ⟨⟨⟩, i1, h⟩ := h
  replace h := ob h; obtain ⟨u3, ep2, h⟩ := h
  rcases u3 with j4 | p2
  · replace h := bsl h
    cases h
    refine sx_xcallV (As := [.int v1]) (rest := []) C hs (c_X11_invoiceAt hfl ep2) mo_X11_invoiceAt q1036 i1 rfl rfl hl.1 ⟨⟨(Nat.le_of_ble_eq_true rfl), (Nat.le_of_ble_eq_true rfl)⟩, (Nat.le_of_ble_eq_true rfl), (Nat.le_of_ble_eq_true rfl)⟩ rfl (Nat.le_of_ble_eq_true rfl) dX11_line_2 (fun k9 hk9 ce q9 H locs a1 a2 a3 a4 a5 a6 => ?_) (fun vr hv => (inlr hv).elim)
    obtain rfl := Sum.inl.inj hk9
    exact sx_out C ht a1 a2 a3 a4 a5 a6 (Nat.le_of_ble_eq_true rfl) (Nat.le_of_ble_eq_true rfl)
  · replace h := bsr h
    refine sx_xcallV (As := [.int v1]) (rest := []) C hs (c_X11_invoiceAt hfl ep2) mo_X11_invoiceAt q1036 i1 rfl rfl hl.1 ⟨⟨(Nat.le_of_ble_eq_true rfl), (Nat.le_of_ble_eq_true rfl)⟩, (Nat.le_of_ble_eq_true rfl), (Nat.le_of_ble_eq_true rfl)⟩ rfl (Nat.le_of_ble_eq_true rfl) dX11_line_2 (fun k9 hk9 => (inrl hk9).elim) (fun vr hv H locs hs => ?_)
    obtain rfl := Sum.inr.inj hv
    refine W.eq (g2 := F0 m 5 ls [.ref p2]) rfl ?_
    refine W.widen (k := 0) (n := 0) (Nat.le_of_ble_eq_true rfl) (Nat.le_of_ble_eq_true rfl) ?_
    refine lv_astore (lv' := [(5, .ref p2), (0, .ref a0), (1, .int v1), (2, .int v2), (3, .int v3), (4, .int v4)]) C.1 C.2.1 dX11_line_5 hl (by decide) rfl (fun ls hl => ?_)
    refine lv_iload_n C.1 C.2.1 dX11_line_7 rfl (lv_at hl 3 rfl) ?_
    replace h := ob h; obtain ⟨u6, ex5, h⟩ := h
    rcases u6 with j7 | x5
    · replace h := bsl h
      cases h
      refine sx_xcallS (As := [.int v2]) (rest := []) C hs (c_X11_checkKind hfl ex5) mo_X11_checkKind q939 rfl hl.1 ⟨⟨(Nat.le_of_ble_eq_true rfl), (Nat.le_of_ble_eq_true rfl)⟩, (Nat.le_of_ble_eq_true rfl), (Nat.le_of_ble_eq_true rfl)⟩ rfl (Nat.le_of_ble_eq_true rfl) dX11_line_8 (fun k9 hk9 ce q9 H locs a1 a2 a3 a4 a5 a6 => ?_) (fun vr hv => (inlr hv).elim)
      obtain rfl := Sum.inl.inj hk9
      exact sx_out C ht a1 a2 a3 a4 a5 a6 (Nat.le_of_ble_eq_true rfl) (Nat.le_of_ble_eq_true rfl)
    · replace h := bsr h
      refine sx_xcallS (As := [.int v2]) (rest := []) C hs (c_X11_checkKind hfl ex5) mo_X11_checkKind q939 rfl hl.1 ⟨⟨(Nat.le_of_ble_eq_true rfl), (Nat.le_of_ble_eq_true rfl)⟩, (Nat.le_of_ble_eq_true rfl), (Nat.le_of_ble_eq_true rfl)⟩ rfl (Nat.le_of_ble_eq_true rfl) dX11_line_8 (fun k9 hk9 => (inrl hk9).elim) (fun vr hv H locs hs => ?_)
      obtain rfl := Sum.inr.inj hv
      refine W.eq (g2 := F0 m 11 ls []) rfl ?_
      refine W.widen (k := 0) (n := 0) (Nat.le_of_ble_eq_true rfl) (Nat.le_of_ble_eq_true rfl) ?_
      refine lv_iload_n C.1 C.2.1 dX11_line_11 rfl (lv_at hl 4 rfl) ?_
      refine lv_i2l (v := Int32.toInt64 v3) C.1 C.2.1 dX11_line_12 rfl ?_
      refine lv_lconst (v := 1) C.1 C.2.1 dX11_line_13 (by decide) ?_
      refine lv_ldc2 (v := 999999) C.1 C.2.1 C.2.2.2.1 (C.2.2.2.2.1.1 _ q991 _) dX11_line_14 ?_
      replace h := ob h; obtain ⟨u9, ex8, h⟩ := h
      rcases u9 with j10 | x8
      · replace h := bsl h
        cases h
        refine sx_xcallS (As := [.long (Int32.toInt64 v3), .long 1, .long 999999]) (rest := []) C hs (c_X11_checkRange hfl ex8) mo_X11_checkRange q842 rfl hl.1 ⟨⟨(Nat.le_of_ble_eq_true rfl), (Nat.le_of_ble_eq_true rfl)⟩, (Nat.le_of_ble_eq_true rfl), (Nat.le_of_ble_eq_true rfl)⟩ rfl (Nat.le_of_ble_eq_true rfl) dX11_line_17 (fun k9 hk9 ce q9 H locs a1 a2 a3 a4 a5 a6 => ?_) (fun vr hv => (inlr hv).elim)
        obtain rfl := Sum.inl.inj hk9
        exact sx_out C ht a1 a2 a3 a4 a5 a6 (Nat.le_of_ble_eq_true rfl) (Nat.le_of_ble_eq_true rfl)
      · replace h := bsr h
        refine sx_xcallS (As := [.long (Int32.toInt64 v3), .long 1, .long 999999]) (rest := []) C hs (c_X11_checkRange hfl ex8) mo_X11_checkRange q842 rfl hl.1 ⟨⟨(Nat.le_of_ble_eq_true rfl), (Nat.le_of_ble_eq_true rfl)⟩, (Nat.le_of_ble_eq_true rfl), (Nat.le_of_ble_eq_true rfl)⟩ rfl (Nat.le_of_ble_eq_true rfl) dX11_line_17 (fun k9 hk9 => (inrl hk9).elim) (fun vr hv H locs hs => ?_)
        obtain rfl := Sum.inr.inj hv
        refine W.eq (g2 := F0 m 20 ls []) rfl ?_
        refine W.widen (k := 0) (n := 0) (Nat.le_of_ble_eq_true rfl) (Nat.le_of_ble_eq_true rfl) ?_
        refine lv_iload C.1 C.2.1 dX11_line_20 (lv_at hl 5 rfl) ?_
        refine lv_i2l (v := Int32.toInt64 v4) C.1 C.2.1 dX11_line_22 rfl ?_
        refine lv_lconst (v := 0) C.1 C.2.1 dX11_line_23 (by decide) ?_
        refine lv_ldc2 (v := 9999999) C.1 C.2.1 C.2.2.2.1 (C.2.2.2.2.1.1 _ q1041 _) dX11_line_24 ?_
        replace h := ob h; obtain ⟨u12, ex11, h⟩ := h
        rcases u12 with j13 | x11
        · replace h := bsl h
          cases h
          refine sx_xcallS (As := [.long (Int32.toInt64 v4), .long 0, .long 9999999]) (rest := []) C hs (c_X11_checkRange hfl ex11) mo_X11_checkRange q842 rfl hl.1 ⟨⟨(Nat.le_of_ble_eq_true rfl), (Nat.le_of_ble_eq_true rfl)⟩, (Nat.le_of_ble_eq_true rfl), (Nat.le_of_ble_eq_true rfl)⟩ rfl (Nat.le_of_ble_eq_true rfl) dX11_line_27 (fun k9 hk9 ce q9 H locs a1 a2 a3 a4 a5 a6 => ?_) (fun vr hv => (inlr hv).elim)
          obtain rfl := Sum.inl.inj hk9
          exact sx_out C ht a1 a2 a3 a4 a5 a6 (Nat.le_of_ble_eq_true rfl) (Nat.le_of_ble_eq_true rfl)
        · replace h := bsr h
          refine sx_xcallS (As := [.long (Int32.toInt64 v4), .long 0, .long 9999999]) (rest := []) C hs (c_X11_checkRange hfl ex11) mo_X11_checkRange q842 rfl hl.1 ⟨⟨(Nat.le_of_ble_eq_true rfl), (Nat.le_of_ble_eq_true rfl)⟩, (Nat.le_of_ble_eq_true rfl), (Nat.le_of_ble_eq_true rfl)⟩ rfl (Nat.le_of_ble_eq_true rfl) dX11_line_27 (fun k9 hk9 => (inrl hk9).elim) (fun vr hv H locs hs => ?_)
          obtain rfl := Sum.inr.inj hv
          refine W.eq (g2 := F0 m 30 ls []) rfl ?_
          refine W.widen (k := 0) (n := 0) (Nat.le_of_ble_eq_true rfl) (Nat.le_of_ble_eq_true rfl) ?_
          refine lv_aload_n C.1 C.2.1 dX11_line_30 rfl (lv_at hl 1 rfl) ?_
          replace h := ob h; obtain ⟨p14, ep14, h⟩ := h
          refine sx_getV C hs fo_X11_67 (gR_v ep14) dX11_line_31 ?_
          refine lv_iload_n C.1 C.2.1 dX11_line_34 rfl (lv_at hl 2 rfl) ?_
          replace h := ob h; obtain ⟨⟨⟩, i15, h⟩ := h
          replace h := ob h; obtain ⟨x16, ex16, h⟩ := h
          refine sx_callV (As := [.int v1]) (rest := []) C hs (c_X3_hasBooking ex16) mo_X3_hasBooking q1042 i15 rfl rfl hl.1 ⟨⟨(Nat.le_of_ble_eq_true rfl), (Nat.le_of_ble_eq_true rfl)⟩, (Nat.le_of_ble_eq_true rfl), (Nat.le_of_ble_eq_true rfl)⟩ rfl (Nat.le_of_ble_eq_true rfl) dX11_line_35 (fun H locs hs => ?_)
          refine W.eq (g2 := F0 m 38 ls [.int x16]) rfl ?_
          refine lv_if_eq (tgt := 52) C.1 C.2.1 dX11_line_38 (by decide) (fun c17 => ?_) (fun c17 => ?_)
          · replace h := ip c17 h
            refine lv_aload C.1 C.2.1 dX11_line_52 (lv_at hl 0 rfl) ?_
            replace h := ob h; obtain ⟨⟨⟩, i18, h⟩ := h
            replace h := ob h; obtain ⟨x19, ex19, h⟩ := h
            refine sx_callV (As := []) (rest := []) C hs (c_X2_isFull ex19) mo_X2_isFull q1062 i18 rfl rfl hl.1 ⟨⟨(Nat.le_of_ble_eq_true rfl), (Nat.le_of_ble_eq_true rfl)⟩, (Nat.le_of_ble_eq_true rfl), (Nat.le_of_ble_eq_true rfl)⟩ rfl (Nat.le_of_ble_eq_true rfl) dX11_line_54 (fun H locs hs => ?_)
            refine W.eq (g2 := F0 m 57 ls [.int x19]) rfl ?_
            refine lv_if_eq (tgt := 71) C.1 C.2.1 dX11_line_57 (by decide) (fun c20 => ?_) (fun c20 => ?_)
            · replace h := ip c20 h
              refine lv_aload_n C.1 C.2.1 dX11_line_71 rfl (lv_at hl 1 rfl) ?_
              replace h := ob h; obtain ⟨p21, ep21, h⟩ := h
              refine sx_getV C hs fo_X11_37 (gR_v ep21) dX11_line_72 ?_
              refine lv_iload_n C.1 C.2.1 dX11_line_75 rfl (lv_at hl 3 rfl) ?_
              replace h := ob h; obtain ⟨w22, ew22, h⟩ := h
              refine sx_aald C hs (by decide) rfl ew22 dX11_line_76 ?_
              replace h := ob h; obtain ⟨p23, rfl, h⟩ := h
              refine lv_iload_n C.1 C.2.1 dX11_line_77 rfl (lv_at hl 4 rfl) ?_
              replace h := ob h; obtain ⟨⟨⟩, i24, h⟩ := h
              replace h := ob h; obtain ⟨x25, ex25, h⟩ := h
              refine sx_callV (As := [.int v3]) (rest := []) C hs (c_X8_amountAt ex25) mo_X8_amountAt q980 i24 rfl rfl hl.1 ⟨⟨(Nat.le_of_ble_eq_true rfl), (Nat.le_of_ble_eq_true rfl)⟩, (Nat.le_of_ble_eq_true rfl), (Nat.le_of_ble_eq_true rfl)⟩ rfl (Nat.le_of_ble_eq_true rfl) dX11_line_78 (fun H locs hs => ?_)
              refine W.eq (g2 := F0 m 81 ls [.int x25]) rfl ?_
              refine lv_istore (lv' := [(6, .int x25), (5, .ref p2), (0, .ref a0), (1, .int v1), (2, .int v2), (3, .int v3), (4, .int v4)]) C.1 C.2.1 dX11_line_81 hl (by decide) rfl (fun ls hl => ?_)
              refine lv_iload C.1 C.2.1 dX11_line_83 (lv_at hl 6 rfl) ?_
              refine lv_i2l (v := Int32.toInt64 v4) C.1 C.2.1 dX11_line_85 rfl ?_
              refine lv_iload_n C.1 C.2.1 dX11_line_86 rfl (lv_at hl 5 rfl) ?_
              refine lv_i2l (v := Int32.toInt64 v3) C.1 C.2.1 dX11_line_87 rfl ?_
              refine lv_lmul C.1 C.2.1 dX11_line_88 ?_
              refine lv_sipush (v := 1000) C.1 C.2.1 dX11_line_89 (by decide) ?_
              refine lv_iload C.1 C.2.1 dX11_line_92 (lv_at hl 0 rfl) ?_
              refine lv_isub C.1 C.2.1 dX11_line_94 ?_
              refine lv_i2l (v := Int32.toInt64 (1000 - x25)) C.1 C.2.1 dX11_line_95 rfl ?_
              refine lv_lmul C.1 C.2.1 dX11_line_96 ?_
              replace h := ol h; obtain ⟨x26, ex26, h⟩ := h
              refine sx_nmL ex26 ?_
              refine lv_lstore (lv' := [(7, .long x26), (6, .int x25), (5, .ref p2), (0, .ref a0), (1, .int v1), (2, .int v2), (3, .int v3), (4, .int v4)]) C.1 C.2.1 dX11_line_97 hl (by decide) rfl (fun ls hl => ?_)
              refine lv_aload C.1 C.2.1 dX11_line_99 (lv_at hl 2 rfl) ?_
              refine lv_lload C.1 C.2.1 dX11_line_101 (lv_at hl 0 rfl) ?_
              refine lv_aload_n C.1 C.2.1 dX11_line_103 rfl (lv_at hl 3 rfl) ?_
              replace h := ob h; obtain ⟨p27, ep27, h⟩ := h
              refine sx_getV C hs fo_X11_33 (gR_v ep27) dX11_line_104 ?_
              refine lv_iload_n C.1 C.2.1 dX11_line_107 rfl (lv_at hl 5 rfl) ?_
              replace h := ob h; obtain ⟨w28, ew28, h⟩ := h
              refine sx_aald C hs (by decide) rfl ew28 dX11_line_108 ?_
              replace h := ob h; obtain ⟨p29, rfl, h⟩ := h
              refine lv_aload C.1 C.2.1 dX11_line_109 (lv_at hl 2 rfl) ?_
              replace h := ob h; obtain ⟨x30, ex30, h⟩ := h
              refine sx_getV C hs fo_X11_320 (gI_v ex30) dX11_line_111 ?_
              replace h := ob h; obtain ⟨⟨⟩, i31, h⟩ := h
              replace h := ob h; obtain ⟨x32, ex32, h⟩ := h
              refine sx_callV (As := [.int x30]) (rest := [.long x26, .ref p2]) C hs (c_X8_amountAt ex32) mo_X8_amountAt q980 i31 rfl rfl hl.1 ⟨⟨(Nat.le_of_ble_eq_true rfl), (Nat.le_of_ble_eq_true rfl)⟩, (Nat.le_of_ble_eq_true rfl), (Nat.le_of_ble_eq_true rfl)⟩ rfl (Nat.le_of_ble_eq_true rfl) dX11_line_114 (fun H locs hs => ?_)
              refine W.eq (g2 := F0 m 117 ls [.int x32, .long x26, .ref p2]) rfl ?_
              replace h := ob2 h; obtain ⟨x33, τ34, ex33, h⟩ := h
              refine sx_callV (As := [.long x26, .int x32]) (rest := []) C hs (c_X2_add ex33) mo_X2_add q1067 i18 rfl rfl hl.1 ⟨⟨(Nat.le_of_ble_eq_true rfl), (Nat.le_of_ble_eq_true rfl)⟩, (Nat.le_of_ble_eq_true rfl), (Nat.le_of_ble_eq_true rfl)⟩ rfl (Nat.le_of_ble_eq_true rfl) dX11_line_117 (fun H locs hs => ?_)
              refine W.eq (g2 := F0 m 120 ls [.int x33]) rfl ?_
              cases h
              exact sx_iretX C hs hr rfl dX11_line_120
            · replace h := iN c20 h
              cases h
              exact sx_throwW C hfl hs to_X11_99_318 ht hl.1 dX11_line_60 dX11_line_63 dX11_line_64 dX11_line_67 dX11_line_70 ⟨by decide, (Nat.le_of_ble_eq_true rfl), (Nat.le_of_ble_eq_true rfl), (Nat.le_of_ble_eq_true rfl)⟩ ⟨(Nat.le_of_ble_eq_true rfl), (Nat.le_of_ble_eq_true rfl)⟩
          · replace h := iN c17 h
            cases h
            exact sx_throwW C hfl hs to_X11_312_314 ht hl.1 dX11_line_41 dX11_line_44 dX11_line_45 dX11_line_48 dX11_line_51 ⟨by decide, (Nat.le_of_ble_eq_true rfl), (Nat.le_of_ble_eq_true rfl), (Nat.le_of_ble_eq_true rfl)⟩ ⟨(Nat.le_of_ble_eq_true rfl), (Nat.le_of_ble_eq_true rfl)⟩
def f_X11_modeOf (σ : Sto) (a0 : Nat) (a1 : Nat) : Option Int32 :=
 (gR σ a0 10 2).bind fun p1 =>
 (gI σ a1 2 1).bind fun x2 =>
 (aQ σ p1 5 x2).bind fun w3 =>
 (w3).bind fun p4 =>
 (gI σ p4 0 1).bind fun x5 =>
 if okC x5 = true then (
 some (x5)) else none
set_option maxHeartbeats 4000000 in
set_option maxRecDepth 100000 in
theorem c_X11_modeOf {l : Launch} {g : PP} {σ : Sto} {sz : Nat} {a0 : Nat} {a1 : Nat} {r9 : Int32} (h : f_X11_modeOf σ a0 a1 = some r9) : Met l yX11_modeOf [Cond.code yX11_modeOf cX11_modeOf 2 (some .char)] (rmk 0 0 0 0) (Pre g σ sz [.ref a0, .ref a1]) (Pst g (vI r9) σ sz) 0 0 (Aw g) := by
  refine Met.ofW (cc := cX11_modeOf) (maxL := 2) (ret := (some .char)) (by decide) rfl ?_
  intro p e s m args below meth c s₁ B hml hv
  obtain ⟨rfl, C, hs⟩ := ctx_of B hml hv
  have C : Cx g p s m meth c cX11_modeOf 2 "Tillhouse" := C
  have hr := B.returns
  have hl := lv_entry ([.ref a0, .ref a1]) (n := 2) (Nat.le_of_ble_eq_true rfl)
  rw [lg_entry_eq]
  generalize (lg_sl ([.ref a0, .ref a1]) ++ List.replicate (2 - (lg_sl ([.ref a0, .ref a1])).length) Slot.unset).toArray = ls at hl ⊢
  have hl : lv_has ls 2 [(0, .ref a0), (1, .ref a1)] := hl
  unfold f_X11_modeOf at h
  refine lv_aload_n C.1 C.2.1 dX11_modeOf_0 rfl (lv_at hl 0 rfl) ?_
  replace h := ob h; obtain ⟨p1, ep1, h⟩ := h
  refine sx_getV C hs fo_X11_24 (gR_v ep1) dX11_modeOf_1 ?_
  refine lv_aload_n C.1 C.2.1 dX11_modeOf_4 rfl (lv_at hl 1 rfl) ?_
  replace h := ob h; obtain ⟨x2, ex2, h⟩ := h
  refine sx_getV C hs fo_X11_345 (gI_v ex2) dX11_modeOf_5 ?_
  replace h := ob h; obtain ⟨w3, ew3, h⟩ := h
  refine sx_aald C hs (by decide) rfl ew3 dX11_modeOf_8 ?_
  replace h := ob h; obtain ⟨p4, rfl, h⟩ := h
  replace h := ob h; obtain ⟨x5, ex5, h⟩ := h
  refine sx_getV C hs fo_X11_228 (gI_v ex5) dX11_modeOf_9 ?_
  replace h := oi h; obtain ⟨n6, h⟩ := h
  cases h
  exact sx_iret C hs hr (okC_n n6).1 dX11_modeOf_12
def f_X11_netOfLine (σ : Sto) (a0 : Nat) (v1 : Int32) (v2 : Int32) : Option ((Nat ⊕ Int64)) :=
 (isO σ a0 10).bind fun _ =>
 (f_X11_invoiceAt σ a0 v1).bind fun u3 =>
 bs u3 (fun j4 => some (.inl j4)) fun p2 =>
 if v2 < 0 then
 some (.inl 0)
 else
 (gI σ p2 2 2).bind fun x6 =>
 if v2 < x6 then
 (f_X11_modeOf σ a0 p2).bind fun x8 =>
 (isO σ p2 2).bind fun _ =>
 (f_X2_lineNet σ p2 v2 x8).bind fun u11 =>
 bs u11 (fun j12 => some (.inl j12)) fun x10 =>
 some (.inr x10)
 else
 some (.inl 0)
set_option maxHeartbeats 4000000 in
set_option maxRecDepth 100000 in
theorem c_X11_netOfLine {l : Launch} (hfl : l.stackTraces = false) {g : PP} {σ : Sto} {sz : Nat} {a0 : Nat} {v1 : Int32} {v2 : Int32} {r9 : Nat ⊕ Int64} (h : f_X11_netOfLine σ a0 v1 v2 = some r9) : vx_Met l yX11_netOfLine [Cond.code yX11_netOfLine cX11_netOfLine 4 (some .long)] (rmk 11 (cX r9) (cY r9) 223) (Pre g σ sz [.ref a0, .int v1, .int v2]) (PstX g (Sum.map id vL r9) σ sz) (XpX g (Sum.map id vL r9) σ sz) (cX r9) (cY r9) (Aw g) := by
  refine vx_ofW (cc := cX11_netOfLine) (maxL := 4) (ret := (some .long)) (by decide) rfl ?_
  intro p e s m args below meth c s₁ B hml ht hv
  obtain ⟨rfl, C, hs⟩ := ctx_of B hml hv
  have C : Cx g p s m meth c cX11_netOfLine 4 "Tillhouse" := C
  have hr := B.returns
  have hl := lv_entry ([.ref a0, .int v1, .int v2]) (n := 4) (Nat.le_of_ble_eq_true rfl)
  rw [lg_entry_eq]
  generalize (lg_sl ([.ref a0, .int v1, .int v2]) ++ List.replicate (4 - (lg_sl ([.ref a0, .int v1, .int v2])).length) Slot.unset).toArray = ls at hl ⊢
  have hl : lv_has ls 4 [(0, .ref a0), (1, .int v1), (2, .int v2)] := hl
  unfold f_X11_netOfLine at h
  refine lv_aload_n C.1 C.2.1 dX11_netOfLine_0 rfl (lv_at hl 0 rfl) ?_
  refine lv_iload_n C.1 C.2.1 dX11_netOfLine_1 rfl (lv_at hl 1 rfl) ?_
  replace h := ob h; obtain ⟨⟨⟩, i1, h⟩ := h
  replace h := ob h; obtain ⟨u3, ep2, h⟩ := h
  rcases u3 with j4 | p2
  · replace h := bsl h
    cases h
    refine sx_xcallV (As := [.int v1]) (rest := []) C hs (c_X11_invoiceAt hfl ep2) mo_X11_invoiceAt q1036 i1 rfl rfl hl.1 ⟨⟨(Nat.le_of_ble_eq_true rfl), (Nat.le_of_ble_eq_true rfl)⟩, (Nat.le_of_ble_eq_true rfl), (Nat.le_of_ble_eq_true rfl)⟩ rfl (Nat.le_of_ble_eq_true rfl) dX11_netOfLine_2 (fun k9 hk9 ce q9 H locs a1 a2 a3 a4 a5 a6 => ?_) (fun vr hv => (inlr hv).elim)
    obtain rfl := Sum.inl.inj hk9
    exact sx_out C ht a1 a2 a3 a4 a5 a6 (Nat.le_of_ble_eq_true rfl) (Nat.le_of_ble_eq_true rfl)
  · replace h := bsr h
    refine sx_xcallV (As := [.int v1]) (rest := []) C hs (c_X11_invoiceAt hfl ep2) mo_X11_invoiceAt q1036 i1 rfl rfl hl.1 ⟨⟨(Nat.le_of_ble_eq_true rfl), (Nat.le_of_ble_eq_true rfl)⟩, (Nat.le_of_ble_eq_true rfl), (Nat.le_of_ble_eq_true rfl)⟩ rfl (Nat.le_of_ble_eq_true rfl) dX11_netOfLine_2 (fun k9 hk9 => (inrl hk9).elim) (fun vr hv H locs hs => ?_)
    obtain rfl := Sum.inr.inj hv
    refine W.eq (g2 := F0 m 5 ls [.ref p2]) rfl ?_
    refine W.widen (k := 0) (n := 0) (Nat.le_of_ble_eq_true rfl) (Nat.le_of_ble_eq_true rfl) ?_
    refine lv_astore_n (lv' := [(3, .ref p2), (0, .ref a0), (1, .int v1), (2, .int v2)]) C.1 C.2.1 dX11_netOfLine_5 rfl hl (by decide) rfl (fun ls hl => ?_)
    refine lv_iload_n C.1 C.2.1 dX11_netOfLine_6 rfl (lv_at hl 3 rfl) ?_
    refine lv_if_lt (tgt := 18) C.1 C.2.1 dX11_netOfLine_7 (by decide) (fun c5 => ?_) (fun c5 => ?_)
    · replace h := ip c5 h
      cases h
      exact sx_throwW C hfl hs to_X11_195_329 ht hl.1 dX11_netOfLine_18 dX11_netOfLine_21 dX11_netOfLine_22 dX11_netOfLine_25 dX11_netOfLine_28 ⟨by decide, (Nat.le_of_ble_eq_true rfl), (Nat.le_of_ble_eq_true rfl), (Nat.le_of_ble_eq_true rfl)⟩ ⟨(Nat.le_of_ble_eq_true rfl), (Nat.le_of_ble_eq_true rfl)⟩
    · replace h := iN c5 h
      refine lv_iload_n C.1 C.2.1 dX11_netOfLine_10 rfl (lv_at hl 3 rfl) ?_
      refine lv_aload_n C.1 C.2.1 dX11_netOfLine_11 rfl (lv_at hl 0 rfl) ?_
      replace h := ob h; obtain ⟨x6, ex6, h⟩ := h
      refine sx_getV C hs fo_X11_326 (gI_v ex6) dX11_netOfLine_12 ?_
      refine lv_icmp_lt (tgt := 29) C.1 C.2.1 dX11_netOfLine_15 (by decide) (fun c7 => ?_) (fun c7 => ?_)
      · replace h := ip c7 h
        refine lv_aload_n C.1 C.2.1 dX11_netOfLine_29 rfl (lv_at hl 0 rfl) ?_
        refine lv_iload_n C.1 C.2.1 dX11_netOfLine_30 rfl (lv_at hl 3 rfl) ?_
        refine lv_aload_n C.1 C.2.1 dX11_netOfLine_31 rfl (lv_at hl 1 rfl) ?_
        refine lv_aload_n C.1 C.2.1 dX11_netOfLine_32 rfl (lv_at hl 0 rfl) ?_
        replace h := ob h; obtain ⟨x8, ex8, h⟩ := h
        refine sx_callV (As := [.ref p2]) (rest := [.int v2, .ref p2]) C hs (c_X11_modeOf ex8) mo_X11_modeOf q1079 i1 rfl rfl hl.1 ⟨⟨(Nat.le_of_ble_eq_true rfl), (Nat.le_of_ble_eq_true rfl)⟩, (Nat.le_of_ble_eq_true rfl), (Nat.le_of_ble_eq_true rfl)⟩ rfl (Nat.le_of_ble_eq_true rfl) dX11_netOfLine_33 (fun H locs hs => ?_)
        refine W.eq (g2 := F0 m 36 ls [.int x8, .int v2, .ref p2]) rfl ?_
        replace h := ob h; obtain ⟨⟨⟩, i9, h⟩ := h
        replace h := ob h; obtain ⟨u11, ex10, h⟩ := h
        rcases u11 with j12 | x10
        · replace h := bsl h
          cases h
          refine sx_xcallV (As := [.int v2, .int x8]) (rest := []) C hs (c_X2_lineNet hfl ex10) mo_X2_lineNet q1083 i9 rfl rfl hl.1 ⟨⟨(Nat.le_of_ble_eq_true rfl), (Nat.le_of_ble_eq_true rfl)⟩, (Nat.le_of_ble_eq_true rfl), (Nat.le_of_ble_eq_true rfl)⟩ rfl (Nat.le_of_ble_eq_true rfl) dX11_netOfLine_36 (fun k9 hk9 ce q9 H locs a1 a2 a3 a4 a5 a6 => ?_) (fun vr hv => (inlr hv).elim)
          obtain rfl := Sum.inl.inj hk9
          exact sx_out C ht a1 a2 a3 a4 a5 a6 (Nat.le_of_ble_eq_true rfl) (Nat.le_of_ble_eq_true rfl)
        · replace h := bsr h
          refine sx_xcallV (As := [.int v2, .int x8]) (rest := []) C hs (c_X2_lineNet hfl ex10) mo_X2_lineNet q1083 i9 rfl rfl hl.1 ⟨⟨(Nat.le_of_ble_eq_true rfl), (Nat.le_of_ble_eq_true rfl)⟩, (Nat.le_of_ble_eq_true rfl), (Nat.le_of_ble_eq_true rfl)⟩ rfl (Nat.le_of_ble_eq_true rfl) dX11_netOfLine_36 (fun k9 hk9 => (inrl hk9).elim) (fun vr hv H locs hs => ?_)
          obtain rfl := Sum.inr.inj hv
          refine W.eq (g2 := F0 m 39 ls [.long x10]) rfl ?_
          refine W.widen (k := 0) (n := 0) (Nat.le_of_ble_eq_true rfl) (Nat.le_of_ble_eq_true rfl) ?_
          cases h
          exact sx_lretX C hs hr dX11_netOfLine_39
      · replace h := iN c7 h
        cases h
        exact sx_throwW C hfl hs to_X11_195_329 ht hl.1 dX11_netOfLine_18 dX11_netOfLine_21 dX11_netOfLine_22 dX11_netOfLine_25 dX11_netOfLine_28 ⟨by decide, (Nat.le_of_ble_eq_true rfl), (Nat.le_of_ble_eq_true rfl), (Nat.le_of_ble_eq_true rfl)⟩ ⟨(Nat.le_of_ble_eq_true rfl), (Nat.le_of_ble_eq_true rfl)⟩
def f_X11_net (N : Nat) (σ : Sto) (a0 : Nat) (v1 : Int32) : Option ((Nat ⊕ Int64)) :=
 (isO σ a0 10).bind fun _ =>
 (f_X11_invoiceAt σ a0 v1).bind fun u3 =>
 bs u3 (fun j4 => some (.inl j4)) fun p2 =>
 (f_X11_modeOf σ a0 p2).bind fun x5 =>
 (isO σ p2 2).bind fun _ =>
 (f_X2_netSum N σ p2 x5).bind fun u8 =>
 bs u8 (fun j9 => some (.inl j9)) fun x7 =>
 some (.inr x7)
set_option maxHeartbeats 4000000 in
set_option maxRecDepth 100000 in
theorem c_X11_net {l : Launch} (hfl : l.stackTraces = false) {g : PP} {N : Nat} {σ : Sto} {sz : Nat} {a0 : Nat} {v1 : Int32} {r9 : Nat ⊕ Int64} (h : f_X11_net N σ a0 v1 = some r9) : vx_Met l yX11_net [Cond.code yX11_net cX11_net 3 (some .long)] (rmk 12 (cX r9) (cY r9) 247) (Pre g σ sz [.ref a0, .int v1]) (PstX g (Sum.map id vL r9) σ sz) (XpX g (Sum.map id vL r9) σ sz) (cX r9) (cY r9) (Aw g) := by
  refine vx_ofW (cc := cX11_net) (maxL := 3) (ret := (some .long)) (by decide) rfl ?_
  intro p e s m args below meth c s₁ B hml ht hv
  obtain ⟨rfl, C, hs⟩ := ctx_of B hml hv
  have C : Cx g p s m meth c cX11_net 3 "Tillhouse" := C
  have hr := B.returns
  have hl := lv_entry ([.ref a0, .int v1]) (n := 3) (Nat.le_of_ble_eq_true rfl)
  rw [lg_entry_eq]
  generalize (lg_sl ([.ref a0, .int v1]) ++ List.replicate (3 - (lg_sl ([.ref a0, .int v1])).length) Slot.unset).toArray = ls at hl ⊢
  have hl : lv_has ls 3 [(0, .ref a0), (1, .int v1)] := hl
  unfold f_X11_net at h
  refine lv_aload_n C.1 C.2.1 dX11_net_0 rfl (lv_at hl 0 rfl) ?_
  refine lv_iload_n C.1 C.2.1 dX11_net_1 rfl (lv_at hl 1 rfl) ?_
  replace h := ob h; obtain ⟨⟨⟩, i1, h⟩ := h
  replace h := ob h; obtain ⟨u3, ep2, h⟩ := h
  rcases u3 with j4 | p2
  · replace h := bsl h
    cases h
    refine sx_xcallV (As := [.int v1]) (rest := []) C hs (c_X11_invoiceAt hfl ep2) mo_X11_invoiceAt q1036 i1 rfl rfl hl.1 ⟨⟨(Nat.le_of_ble_eq_true rfl), (Nat.le_of_ble_eq_true rfl)⟩, (Nat.le_of_ble_eq_true rfl), (Nat.le_of_ble_eq_true rfl)⟩ rfl (Nat.le_of_ble_eq_true rfl) dX11_net_2 (fun k9 hk9 ce q9 H locs a1 a2 a3 a4 a5 a6 => ?_) (fun vr hv => (inlr hv).elim)
    obtain rfl := Sum.inl.inj hk9
    exact sx_out C ht a1 a2 a3 a4 a5 a6 (Nat.le_of_ble_eq_true rfl) (Nat.le_of_ble_eq_true rfl)
  · replace h := bsr h
    refine sx_xcallV (As := [.int v1]) (rest := []) C hs (c_X11_invoiceAt hfl ep2) mo_X11_invoiceAt q1036 i1 rfl rfl hl.1 ⟨⟨(Nat.le_of_ble_eq_true rfl), (Nat.le_of_ble_eq_true rfl)⟩, (Nat.le_of_ble_eq_true rfl), (Nat.le_of_ble_eq_true rfl)⟩ rfl (Nat.le_of_ble_eq_true rfl) dX11_net_2 (fun k9 hk9 => (inrl hk9).elim) (fun vr hv H locs hs => ?_)
    obtain rfl := Sum.inr.inj hv
    refine W.eq (g2 := F0 m 5 ls [.ref p2]) rfl ?_
    refine W.widen (k := 0) (n := 0) (Nat.le_of_ble_eq_true rfl) (Nat.le_of_ble_eq_true rfl) ?_
    refine lv_astore_n (lv' := [(2, .ref p2), (0, .ref a0), (1, .int v1)]) C.1 C.2.1 dX11_net_5 rfl hl (by decide) rfl (fun ls hl => ?_)
    refine lv_aload_n C.1 C.2.1 dX11_net_6 rfl (lv_at hl 0 rfl) ?_
    refine lv_aload_n C.1 C.2.1 dX11_net_7 rfl (lv_at hl 1 rfl) ?_
    refine lv_aload_n C.1 C.2.1 dX11_net_8 rfl (lv_at hl 0 rfl) ?_
    replace h := ob h; obtain ⟨x5, ex5, h⟩ := h
    refine sx_callV (As := [.ref p2]) (rest := [.ref p2]) C hs (c_X11_modeOf ex5) mo_X11_modeOf q1079 i1 rfl rfl hl.1 ⟨⟨(Nat.le_of_ble_eq_true rfl), (Nat.le_of_ble_eq_true rfl)⟩, (Nat.le_of_ble_eq_true rfl), (Nat.le_of_ble_eq_true rfl)⟩ rfl (Nat.le_of_ble_eq_true rfl) dX11_net_9 (fun H locs hs => ?_)
    refine W.eq (g2 := F0 m 12 ls [.int x5, .ref p2]) rfl ?_
    replace h := ob h; obtain ⟨⟨⟩, i6, h⟩ := h
    replace h := ob h; obtain ⟨u8, ex7, h⟩ := h
    rcases u8 with j9 | x7
    · replace h := bsl h
      cases h
      refine sx_xcallV (As := [.int x5]) (rest := []) C hs (c_X2_netSum hfl ex7) mo_X2_netSum q1104 i6 rfl rfl hl.1 ⟨⟨(Nat.le_of_ble_eq_true rfl), (Nat.le_of_ble_eq_true rfl)⟩, (Nat.le_of_ble_eq_true rfl), (Nat.le_of_ble_eq_true rfl)⟩ rfl (Nat.le_of_ble_eq_true rfl) dX11_net_12 (fun k9 hk9 ce q9 H locs a1 a2 a3 a4 a5 a6 => ?_) (fun vr hv => (inlr hv).elim)
      obtain rfl := Sum.inl.inj hk9
      exact sx_out C ht a1 a2 a3 a4 a5 a6 (Nat.le_of_ble_eq_true rfl) (Nat.le_of_ble_eq_true rfl)
    · replace h := bsr h
      refine sx_xcallV (As := [.int x5]) (rest := []) C hs (c_X2_netSum hfl ex7) mo_X2_netSum q1104 i6 rfl rfl hl.1 ⟨⟨(Nat.le_of_ble_eq_true rfl), (Nat.le_of_ble_eq_true rfl)⟩, (Nat.le_of_ble_eq_true rfl), (Nat.le_of_ble_eq_true rfl)⟩ rfl (Nat.le_of_ble_eq_true rfl) dX11_net_12 (fun k9 hk9 => (inrl hk9).elim) (fun vr hv H locs hs => ?_)
      obtain rfl := Sum.inr.inj hv
      refine W.eq (g2 := F0 m 15 ls [.long x7]) rfl ?_
      refine W.widen (k := 0) (n := 0) (Nat.le_of_ble_eq_true rfl) (Nat.le_of_ble_eq_true rfl) ?_
      cases h
      exact sx_lretX C hs hr dX11_net_15
def f_X11_taxOf (N : Nat) (σ : Sto) (a0 : Nat) (v1 : Int32) : Option ((Nat ⊕ Int64)) :=
 (isO σ a0 10).bind fun _ =>
 (f_X11_invoiceAt σ a0 v1).bind fun u3 =>
 bs u3 (fun j4 => some (.inl j4)) fun p2 =>
 (f_X11_modeOf σ a0 p2).bind fun x5 =>
 (isO σ p2 2).bind fun _ =>
 (f_X2_taxSum N σ p2 x5).bind fun u8 =>
 bs u8 (fun j9 => some (.inl j9)) fun x7 =>
 some (.inr x7)
set_option maxHeartbeats 4000000 in
set_option maxRecDepth 100000 in
theorem c_X11_taxOf {l : Launch} (hfl : l.stackTraces = false) {g : PP} {N : Nat} {σ : Sto} {sz : Nat} {a0 : Nat} {v1 : Int32} {r9 : Nat ⊕ Int64} (h : f_X11_taxOf N σ a0 v1 = some r9) : vx_Met l yX11_taxOf [Cond.code yX11_taxOf cX11_taxOf 3 (some .long)] (rmk 13 (cX r9) (cY r9) 269) (Pre g σ sz [.ref a0, .int v1]) (PstX g (Sum.map id vL r9) σ sz) (XpX g (Sum.map id vL r9) σ sz) (cX r9) (cY r9) (Aw g) := by
  refine vx_ofW (cc := cX11_taxOf) (maxL := 3) (ret := (some .long)) (by decide) rfl ?_
  intro p e s m args below meth c s₁ B hml ht hv
  obtain ⟨rfl, C, hs⟩ := ctx_of B hml hv
  have C : Cx g p s m meth c cX11_taxOf 3 "Tillhouse" := C
  have hr := B.returns
  have hl := lv_entry ([.ref a0, .int v1]) (n := 3) (Nat.le_of_ble_eq_true rfl)
  rw [lg_entry_eq]
  generalize (lg_sl ([.ref a0, .int v1]) ++ List.replicate (3 - (lg_sl ([.ref a0, .int v1])).length) Slot.unset).toArray = ls at hl ⊢
  have hl : lv_has ls 3 [(0, .ref a0), (1, .int v1)] := hl
  unfold f_X11_taxOf at h
  refine lv_aload_n C.1 C.2.1 dX11_taxOf_0 rfl (lv_at hl 0 rfl) ?_
  refine lv_iload_n C.1 C.2.1 dX11_taxOf_1 rfl (lv_at hl 1 rfl) ?_
  replace h := ob h; obtain ⟨⟨⟩, i1, h⟩ := h
  replace h := ob h; obtain ⟨u3, ep2, h⟩ := h
  rcases u3 with j4 | p2
  · replace h := bsl h
    cases h
    refine sx_xcallV (As := [.int v1]) (rest := []) C hs (c_X11_invoiceAt hfl ep2) mo_X11_invoiceAt q1036 i1 rfl rfl hl.1 ⟨⟨(Nat.le_of_ble_eq_true rfl), (Nat.le_of_ble_eq_true rfl)⟩, (Nat.le_of_ble_eq_true rfl), (Nat.le_of_ble_eq_true rfl)⟩ rfl (Nat.le_of_ble_eq_true rfl) dX11_taxOf_2 (fun k9 hk9 ce q9 H locs a1 a2 a3 a4 a5 a6 => ?_) (fun vr hv => (inlr hv).elim)
    obtain rfl := Sum.inl.inj hk9
    exact sx_out C ht a1 a2 a3 a4 a5 a6 (Nat.le_of_ble_eq_true rfl) (Nat.le_of_ble_eq_true rfl)
  · replace h := bsr h
    refine sx_xcallV (As := [.int v1]) (rest := []) C hs (c_X11_invoiceAt hfl ep2) mo_X11_invoiceAt q1036 i1 rfl rfl hl.1 ⟨⟨(Nat.le_of_ble_eq_true rfl), (Nat.le_of_ble_eq_true rfl)⟩, (Nat.le_of_ble_eq_true rfl), (Nat.le_of_ble_eq_true rfl)⟩ rfl (Nat.le_of_ble_eq_true rfl) dX11_taxOf_2 (fun k9 hk9 => (inrl hk9).elim) (fun vr hv H locs hs => ?_)
    obtain rfl := Sum.inr.inj hv
    refine W.eq (g2 := F0 m 5 ls [.ref p2]) rfl ?_
    refine W.widen (k := 0) (n := 0) (Nat.le_of_ble_eq_true rfl) (Nat.le_of_ble_eq_true rfl) ?_
    refine lv_astore_n (lv' := [(2, .ref p2), (0, .ref a0), (1, .int v1)]) C.1 C.2.1 dX11_taxOf_5 rfl hl (by decide) rfl (fun ls hl => ?_)
    refine lv_aload_n C.1 C.2.1 dX11_taxOf_6 rfl (lv_at hl 0 rfl) ?_
    refine lv_aload_n C.1 C.2.1 dX11_taxOf_7 rfl (lv_at hl 1 rfl) ?_
    refine lv_aload_n C.1 C.2.1 dX11_taxOf_8 rfl (lv_at hl 0 rfl) ?_
    replace h := ob h; obtain ⟨x5, ex5, h⟩ := h
    refine sx_callV (As := [.ref p2]) (rest := [.ref p2]) C hs (c_X11_modeOf ex5) mo_X11_modeOf q1079 i1 rfl rfl hl.1 ⟨⟨(Nat.le_of_ble_eq_true rfl), (Nat.le_of_ble_eq_true rfl)⟩, (Nat.le_of_ble_eq_true rfl), (Nat.le_of_ble_eq_true rfl)⟩ rfl (Nat.le_of_ble_eq_true rfl) dX11_taxOf_9 (fun H locs hs => ?_)
    refine W.eq (g2 := F0 m 12 ls [.int x5, .ref p2]) rfl ?_
    replace h := ob h; obtain ⟨⟨⟩, i6, h⟩ := h
    replace h := ob h; obtain ⟨u8, ex7, h⟩ := h
    rcases u8 with j9 | x7
    · replace h := bsl h
      cases h
      refine sx_xcallV (As := [.int x5]) (rest := []) C hs (c_X2_taxSum hfl ex7) mo_X2_taxSum q1116 i6 rfl rfl hl.1 ⟨⟨(Nat.le_of_ble_eq_true rfl), (Nat.le_of_ble_eq_true rfl)⟩, (Nat.le_of_ble_eq_true rfl), (Nat.le_of_ble_eq_true rfl)⟩ rfl (Nat.le_of_ble_eq_true rfl) dX11_taxOf_12 (fun k9 hk9 ce q9 H locs a1 a2 a3 a4 a5 a6 => ?_) (fun vr hv => (inlr hv).elim)
      obtain rfl := Sum.inl.inj hk9
      exact sx_out C ht a1 a2 a3 a4 a5 a6 (Nat.le_of_ble_eq_true rfl) (Nat.le_of_ble_eq_true rfl)
    · replace h := bsr h
      refine sx_xcallV (As := [.int x5]) (rest := []) C hs (c_X2_taxSum hfl ex7) mo_X2_taxSum q1116 i6 rfl rfl hl.1 ⟨⟨(Nat.le_of_ble_eq_true rfl), (Nat.le_of_ble_eq_true rfl)⟩, (Nat.le_of_ble_eq_true rfl), (Nat.le_of_ble_eq_true rfl)⟩ rfl (Nat.le_of_ble_eq_true rfl) dX11_taxOf_12 (fun k9 hk9 => (inrl hk9).elim) (fun vr hv H locs hs => ?_)
      obtain rfl := Sum.inr.inj hv
      refine W.eq (g2 := F0 m 15 ls [.long x7]) rfl ?_
      refine W.widen (k := 0) (n := 0) (Nat.le_of_ble_eq_true rfl) (Nat.le_of_ble_eq_true rfl) ?_
      cases h
      exact sx_lretX C hs hr dX11_taxOf_15
def f_X11_cash (N : Nat) (σ : Sto) (a0 : Nat) (v1 : Int32) : Option ((Nat ⊕ Int64)) :=
 (isO σ a0 10).bind fun _ =>
 (f_X11_invoiceAt σ a0 v1).bind fun u3 =>
 bs u3 (fun j4 => some (.inl j4)) fun p2 =>
 (f_X11_modeOf σ a0 p2).bind fun x5 =>
 (isO σ p2 2).bind fun _ =>
 (f_X2_netSum N σ p2 x5).bind fun u8 =>
 bs u8 (fun j9 => some (.inl j9)) fun x7 =>
 (f_X11_modeOf σ a0 p2).bind fun x10 =>
 (f_X2_taxSum N σ p2 x10).bind fun u12 =>
 bs u12 (fun j13 => some (.inl j13)) fun x11 =>
 lt_ (x7 + x11) fun x14 =>
 (gR σ a0 10 2).bind fun p15 =>
 (gI σ p2 2 1).bind fun x16 =>
 (aQ σ p15 5 x16).bind fun w17 =>
 (w17).bind fun p18 =>
 (gI σ p18 0 2).bind fun x19 =>
 (f_X6_quotient x14 (Int32.toInt64 x19) 104).bind fun u21 =>
 bs u21 (fun j22 => some (.inl j22)) fun x20 =>
 some (.inr (x20 * (Int32.toInt64 x19)))
set_option maxHeartbeats 4000000 in
set_option maxRecDepth 100000 in
theorem c_X11_cash {l : Launch} (hfl : l.stackTraces = false) {g : PP} {N : Nat} {σ : Sto} {sz : Nat} {a0 : Nat} {v1 : Int32} {r9 : Nat ⊕ Int64} (h : f_X11_cash N σ a0 v1 = some r9) : vx_Met l yX11_cash [Cond.code yX11_cash cX11_cash 6 (some .long)] (rmk 13 (cX r9) (cY r9) 269) (Pre g σ sz [.ref a0, .int v1]) (PstX g (Sum.map id vL r9) σ sz) (XpX g (Sum.map id vL r9) σ sz) (cX r9) (cY r9) (Aw g) := by
  refine vx_ofW (cc := cX11_cash) (maxL := 6) (ret := (some .long)) (by decide) rfl ?_
  intro p e s m args below meth c s₁ B hml ht hv
  obtain ⟨rfl, C, hs⟩ := ctx_of B hml hv
  have C : Cx g p s m meth c cX11_cash 6 "Tillhouse" := C
  have hr := B.returns
  have hl := lv_entry ([.ref a0, .int v1]) (n := 6) (Nat.le_of_ble_eq_true rfl)
  rw [lg_entry_eq]
  generalize (lg_sl ([.ref a0, .int v1]) ++ List.replicate (6 - (lg_sl ([.ref a0, .int v1])).length) Slot.unset).toArray = ls at hl ⊢
  have hl : lv_has ls 6 [(0, .ref a0), (1, .int v1)] := hl
  unfold f_X11_cash at h
  refine lv_aload_n C.1 C.2.1 dX11_cash_0 rfl (lv_at hl 0 rfl) ?_
  refine lv_iload_n C.1 C.2.1 dX11_cash_1 rfl (lv_at hl 1 rfl) ?_
  replace h := ob h; obtain ⟨⟨⟩, i1, h⟩ := h
  replace h := ob h; obtain ⟨u3, ep2, h⟩ := h
  rcases u3 with j4 | p2
  · replace h := bsl h
    cases h
    refine sx_xcallV (As := [.int v1]) (rest := []) C hs (c_X11_invoiceAt hfl ep2) mo_X11_invoiceAt q1036 i1 rfl rfl hl.1 ⟨⟨(Nat.le_of_ble_eq_true rfl), (Nat.le_of_ble_eq_true rfl)⟩, (Nat.le_of_ble_eq_true rfl), (Nat.le_of_ble_eq_true rfl)⟩ rfl (Nat.le_of_ble_eq_true rfl) dX11_cash_2 (fun k9 hk9 ce q9 H locs a1 a2 a3 a4 a5 a6 => ?_) (fun vr hv => (inlr hv).elim)
    obtain rfl := Sum.inl.inj hk9
    exact sx_out C ht a1 a2 a3 a4 a5 a6 (Nat.le_of_ble_eq_true rfl) (Nat.le_of_ble_eq_true rfl)
  · replace h := bsr h
    refine sx_xcallV (As := [.int v1]) (rest := []) C hs (c_X11_invoiceAt hfl ep2) mo_X11_invoiceAt q1036 i1 rfl rfl hl.1 ⟨⟨(Nat.le_of_ble_eq_true rfl), (Nat.le_of_ble_eq_true rfl)⟩, (Nat.le_of_ble_eq_true rfl), (Nat.le_of_ble_eq_true rfl)⟩ rfl (Nat.le_of_ble_eq_true rfl) dX11_cash_2 (fun k9 hk9 => (inrl hk9).elim) (fun vr hv H locs hs => ?_)
    obtain rfl := Sum.inr.inj hv
    refine W.eq (g2 := F0 m 5 ls [.ref p2]) rfl ?_
    refine W.widen (k := 0) (n := 0) (Nat.le_of_ble_eq_true rfl) (Nat.le_of_ble_eq_true rfl) ?_
    refine lv_astore_n (lv' := [(2, .ref p2), (0, .ref a0), (1, .int v1)]) C.1 C.2.1 dX11_cash_5 rfl hl (by decide) rfl (fun ls hl => ?_)
    refine lv_aload_n C.1 C.2.1 dX11_cash_6 rfl (lv_at hl 0 rfl) ?_
    refine lv_aload_n C.1 C.2.1 dX11_cash_7 rfl (lv_at hl 1 rfl) ?_
    refine lv_aload_n C.1 C.2.1 dX11_cash_8 rfl (lv_at hl 0 rfl) ?_
    replace h := ob h; obtain ⟨x5, ex5, h⟩ := h
    refine sx_callV (As := [.ref p2]) (rest := [.ref p2]) C hs (c_X11_modeOf ex5) mo_X11_modeOf q1079 i1 rfl rfl hl.1 ⟨⟨(Nat.le_of_ble_eq_true rfl), (Nat.le_of_ble_eq_true rfl)⟩, (Nat.le_of_ble_eq_true rfl), (Nat.le_of_ble_eq_true rfl)⟩ rfl (Nat.le_of_ble_eq_true rfl) dX11_cash_9 (fun H locs hs => ?_)
    refine W.eq (g2 := F0 m 12 ls [.int x5, .ref p2]) rfl ?_
    replace h := ob h; obtain ⟨⟨⟩, i6, h⟩ := h
    replace h := ob h; obtain ⟨u8, ex7, h⟩ := h
    rcases u8 with j9 | x7
    · replace h := bsl h
      cases h
      refine sx_xcallV (As := [.int x5]) (rest := []) C hs (c_X2_netSum hfl ex7) mo_X2_netSum q1104 i6 rfl rfl hl.1 ⟨⟨(Nat.le_of_ble_eq_true rfl), (Nat.le_of_ble_eq_true rfl)⟩, (Nat.le_of_ble_eq_true rfl), (Nat.le_of_ble_eq_true rfl)⟩ rfl (Nat.le_of_ble_eq_true rfl) dX11_cash_12 (fun k9 hk9 ce q9 H locs a1 a2 a3 a4 a5 a6 => ?_) (fun vr hv => (inlr hv).elim)
      obtain rfl := Sum.inl.inj hk9
      exact sx_out C ht a1 a2 a3 a4 a5 a6 (Nat.le_of_ble_eq_true rfl) (Nat.le_of_ble_eq_true rfl)
    · replace h := bsr h
      refine sx_xcallV (As := [.int x5]) (rest := []) C hs (c_X2_netSum hfl ex7) mo_X2_netSum q1104 i6 rfl rfl hl.1 ⟨⟨(Nat.le_of_ble_eq_true rfl), (Nat.le_of_ble_eq_true rfl)⟩, (Nat.le_of_ble_eq_true rfl), (Nat.le_of_ble_eq_true rfl)⟩ rfl (Nat.le_of_ble_eq_true rfl) dX11_cash_12 (fun k9 hk9 => (inrl hk9).elim) (fun vr hv H locs hs => ?_)
      obtain rfl := Sum.inr.inj hv
      refine W.eq (g2 := F0 m 15 ls [.long x7]) rfl ?_
      refine W.widen (k := 0) (n := 0) (Nat.le_of_ble_eq_true rfl) (Nat.le_of_ble_eq_true rfl) ?_
      refine lv_aload_n C.1 C.2.1 dX11_cash_15 rfl (lv_at hl 0 rfl) ?_
      refine lv_aload_n C.1 C.2.1 dX11_cash_16 rfl (lv_at hl 1 rfl) ?_
      refine lv_aload_n C.1 C.2.1 dX11_cash_17 rfl (lv_at hl 0 rfl) ?_
      replace h := ob h; obtain ⟨x10, ex10, h⟩ := h
      refine sx_callV (As := [.ref p2]) (rest := [.ref p2, .long x7]) C hs (c_X11_modeOf ex10) mo_X11_modeOf q1079 i1 rfl rfl hl.1 ⟨⟨(Nat.le_of_ble_eq_true rfl), (Nat.le_of_ble_eq_true rfl)⟩, (Nat.le_of_ble_eq_true rfl), (Nat.le_of_ble_eq_true rfl)⟩ rfl (Nat.le_of_ble_eq_true rfl) dX11_cash_18 (fun H locs hs => ?_)
      refine W.eq (g2 := F0 m 21 ls [.int x10, .ref p2, .long x7]) rfl ?_
      replace h := ob h; obtain ⟨u12, ex11, h⟩ := h
      rcases u12 with j13 | x11
      · replace h := bsl h
        cases h
        refine sx_xcallV (As := [.int x10]) (rest := [.long x7]) C hs (c_X2_taxSum hfl ex11) mo_X2_taxSum q1116 i6 rfl rfl hl.1 ⟨⟨(Nat.le_of_ble_eq_true rfl), (Nat.le_of_ble_eq_true rfl)⟩, (Nat.le_of_ble_eq_true rfl), (Nat.le_of_ble_eq_true rfl)⟩ rfl (Nat.le_of_ble_eq_true rfl) dX11_cash_21 (fun k9 hk9 ce q9 H locs a1 a2 a3 a4 a5 a6 => ?_) (fun vr hv => (inlr hv).elim)
        obtain rfl := Sum.inl.inj hk9
        exact sx_out C ht a1 a2 a3 a4 a5 a6 (Nat.le_of_ble_eq_true rfl) (Nat.le_of_ble_eq_true rfl)
      · replace h := bsr h
        refine sx_xcallV (As := [.int x10]) (rest := [.long x7]) C hs (c_X2_taxSum hfl ex11) mo_X2_taxSum q1116 i6 rfl rfl hl.1 ⟨⟨(Nat.le_of_ble_eq_true rfl), (Nat.le_of_ble_eq_true rfl)⟩, (Nat.le_of_ble_eq_true rfl), (Nat.le_of_ble_eq_true rfl)⟩ rfl (Nat.le_of_ble_eq_true rfl) dX11_cash_21 (fun k9 hk9 => (inrl hk9).elim) (fun vr hv H locs hs => ?_)
        obtain rfl := Sum.inr.inj hv
        refine W.eq (g2 := F0 m 24 ls [.long x11, .long x7]) rfl ?_
        refine W.widen (k := 0) (n := 0) (Nat.le_of_ble_eq_true rfl) (Nat.le_of_ble_eq_true rfl) ?_
        refine lv_ladd C.1 C.2.1 dX11_cash_24 ?_
        replace h := ol h; obtain ⟨x14, ex14, h⟩ := h
        refine sx_nmL ex14 ?_
        refine lv_lstore_n (lv' := [(3, .long x14), (2, .ref p2), (0, .ref a0), (1, .int v1)]) C.1 C.2.1 dX11_cash_25 rfl hl (by decide) rfl (fun ls hl => ?_)
        refine lv_aload_n C.1 C.2.1 dX11_cash_26 rfl (lv_at hl 2 rfl) ?_
        replace h := ob h; obtain ⟨p15, ep15, h⟩ := h
        refine sx_getV C hs fo_X11_24 (gR_v ep15) dX11_cash_27 ?_
        refine lv_aload_n C.1 C.2.1 dX11_cash_30 rfl (lv_at hl 1 rfl) ?_
        replace h := ob h; obtain ⟨x16, ex16, h⟩ := h
        refine sx_getV C hs fo_X11_345 (gI_v ex16) dX11_cash_31 ?_
        replace h := ob h; obtain ⟨w17, ew17, h⟩ := h
        refine sx_aald C hs (by decide) rfl ew17 dX11_cash_34 ?_
        replace h := ob h; obtain ⟨p18, rfl, h⟩ := h
        replace h := ob h; obtain ⟨x19, ex19, h⟩ := h
        refine sx_getV C hs fo_X11_232 (gI_v ex19) dX11_cash_35 ?_
        refine lv_istore (lv' := [(5, .int x19), (3, .long x14), (2, .ref p2), (0, .ref a0), (1, .int v1)]) C.1 C.2.1 dX11_cash_38 hl (by decide) rfl (fun ls hl => ?_)
        refine lv_lload_n C.1 C.2.1 dX11_cash_40 rfl (lv_at hl 1 rfl) ?_
        refine lv_iload C.1 C.2.1 dX11_cash_41 (lv_at hl 0 rfl) ?_
        refine lv_i2l (v := Int32.toInt64 x19) C.1 C.2.1 dX11_cash_43 rfl ?_
        refine lv_bipush (v := 104) C.1 C.2.1 dX11_cash_44 (by decide) ?_
        replace h := ob h; obtain ⟨u21, ex20, h⟩ := h
        rcases u21 with j22 | x20
        · replace h := bsl h
          cases h
          refine sx_xcallS (As := [.long x14, .long (Int32.toInt64 x19), .int 104]) (rest := []) C hs (c_X6_quotient hfl ex20) mo_X6_quotient q1138 rfl hl.1 ⟨⟨(Nat.le_of_ble_eq_true rfl), (Nat.le_of_ble_eq_true rfl)⟩, (Nat.le_of_ble_eq_true rfl), (Nat.le_of_ble_eq_true rfl)⟩ rfl (Nat.le_of_ble_eq_true rfl) dX11_cash_46 (fun k9 hk9 ce q9 H locs a1 a2 a3 a4 a5 a6 => ?_) (fun vr hv => (inlr hv).elim)
          obtain rfl := Sum.inl.inj hk9
          exact sx_out C ht a1 a2 a3 a4 a5 a6 (Nat.le_of_ble_eq_true rfl) (Nat.le_of_ble_eq_true rfl)
        · replace h := bsr h
          refine sx_xcallS (As := [.long x14, .long (Int32.toInt64 x19), .int 104]) (rest := []) C hs (c_X6_quotient hfl ex20) mo_X6_quotient q1138 rfl hl.1 ⟨⟨(Nat.le_of_ble_eq_true rfl), (Nat.le_of_ble_eq_true rfl)⟩, (Nat.le_of_ble_eq_true rfl), (Nat.le_of_ble_eq_true rfl)⟩ rfl (Nat.le_of_ble_eq_true rfl) dX11_cash_46 (fun k9 hk9 => (inrl hk9).elim) (fun vr hv H locs hs => ?_)
          obtain rfl := Sum.inr.inj hv
          refine W.eq (g2 := F0 m 49 ls [.long x20]) rfl ?_
          refine W.widen (k := 0) (n := 0) (Nat.le_of_ble_eq_true rfl) (Nat.le_of_ble_eq_true rfl) ?_
          refine lv_iload C.1 C.2.1 dX11_cash_49 (lv_at hl 0 rfl) ?_
          refine lv_i2l (v := Int32.toInt64 x19) C.1 C.2.1 dX11_cash_51 rfl ?_
          refine lv_lmul C.1 C.2.1 dX11_cash_52 ?_
          cases h
          exact sx_lretX C hs hr dX11_cash_53
def f_X11_weigh (σ : Sto) (a0 : Nat) (v1 : Int32) : Option ((Nat ⊕ Int32) × Sto) :=
 (f_X11_checkRange (Int32.toInt64 v1) 0 9999).bind fun u2 =>
 bs u2 (fun j3 => some (.inl j3, σ)) fun x1 =>
 (gR σ a0 10 8).bind fun p4 =>
 (isO σ p4 6).bind fun _ =>
 (f_X7_isFull σ p4).bind fun x6 =>
 if x6 = 0 then
 (gR σ a0 10 8).bind fun p8 =>
 (isO σ p8 6).bind fun _ =>
 b2 (f_X7_add σ p8 v1) fun x10 τ11 =>
 some (.inr x10, τ11)
 else
 some (.inl 4, σ)
set_option maxHeartbeats 4000000 in
set_option maxRecDepth 100000 in
theorem c_X11_weigh {l : Launch} (hfl : l.stackTraces = false) {g : PP} {σ : Sto} {sz : Nat} {a0 : Nat} {v1 : Int32} {r9 : Nat ⊕ Int32} {σ9 : Sto} (h : f_X11_weigh σ a0 v1 = some (r9, σ9)) : vx_Met l yX11_weigh [Cond.code yX11_weigh cX11_weigh 2 (some .int)] (rmk 7 (cX r9) (cY r9) 125) (Pre g σ sz [.ref a0, .int v1]) (PstX g (Sum.map id vI r9) σ9 sz) (XpX g (Sum.map id vI r9) σ9 sz) (cX r9) (cY r9) (Aw g) := by
  refine vx_ofW (cc := cX11_weigh) (maxL := 2) (ret := (some .int)) (by decide) rfl ?_
  intro p e s m args below meth c s₁ B hml ht hv
  obtain ⟨rfl, C, hs⟩ := ctx_of B hml hv
  have C : Cx g p s m meth c cX11_weigh 2 "Tillhouse" := C
  have hr := B.returns
  have hl := lv_entry ([.ref a0, .int v1]) (n := 2) (Nat.le_of_ble_eq_true rfl)
  rw [lg_entry_eq]
  generalize (lg_sl ([.ref a0, .int v1]) ++ List.replicate (2 - (lg_sl ([.ref a0, .int v1])).length) Slot.unset).toArray = ls at hl ⊢
  have hl : lv_has ls 2 [(0, .ref a0), (1, .int v1)] := hl
  unfold f_X11_weigh at h
  refine lv_iload_n C.1 C.2.1 dX11_weigh_0 rfl (lv_at hl 1 rfl) ?_
  refine lv_i2l (v := Int32.toInt64 v1) C.1 C.2.1 dX11_weigh_1 rfl ?_
  refine lv_lconst (v := 0) C.1 C.2.1 dX11_weigh_2 (by decide) ?_
  refine lv_ldc2 (v := 9999) C.1 C.2.1 C.2.2.2.1 (C.2.2.2.2.1.1 _ q943 _) dX11_weigh_3 ?_
  replace h := ob h; obtain ⟨u2, ex1, h⟩ := h
  rcases u2 with j3 | x1
  · replace h := bsl h
    cases h
    refine sx_xcallS (As := [.long (Int32.toInt64 v1), .long 0, .long 9999]) (rest := []) C hs (c_X11_checkRange hfl ex1) mo_X11_checkRange q842 rfl hl.1 ⟨⟨(Nat.le_of_ble_eq_true rfl), (Nat.le_of_ble_eq_true rfl)⟩, (Nat.le_of_ble_eq_true rfl), (Nat.le_of_ble_eq_true rfl)⟩ rfl (Nat.le_of_ble_eq_true rfl) dX11_weigh_6 (fun k9 hk9 ce q9 H locs a1 a2 a3 a4 a5 a6 => ?_) (fun vr hv => (inlr hv).elim)
    obtain rfl := Sum.inl.inj hk9
    exact sx_out C ht a1 a2 a3 a4 a5 a6 (Nat.le_of_ble_eq_true rfl) (Nat.le_of_ble_eq_true rfl)
  · replace h := bsr h
    refine sx_xcallS (As := [.long (Int32.toInt64 v1), .long 0, .long 9999]) (rest := []) C hs (c_X11_checkRange hfl ex1) mo_X11_checkRange q842 rfl hl.1 ⟨⟨(Nat.le_of_ble_eq_true rfl), (Nat.le_of_ble_eq_true rfl)⟩, (Nat.le_of_ble_eq_true rfl), (Nat.le_of_ble_eq_true rfl)⟩ rfl (Nat.le_of_ble_eq_true rfl) dX11_weigh_6 (fun k9 hk9 => (inrl hk9).elim) (fun vr hv H locs hs => ?_)
    obtain rfl := Sum.inr.inj hv
    refine W.eq (g2 := F0 m 9 ls []) rfl ?_
    refine W.widen (k := 0) (n := 0) (Nat.le_of_ble_eq_true rfl) (Nat.le_of_ble_eq_true rfl) ?_
    refine lv_aload_n C.1 C.2.1 dX11_weigh_9 rfl (lv_at hl 0 rfl) ?_
    replace h := ob h; obtain ⟨p4, ep4, h⟩ := h
    refine sx_getV C hs fo_X11_53 (gR_v ep4) dX11_weigh_10 ?_
    replace h := ob h; obtain ⟨⟨⟩, i5, h⟩ := h
    replace h := ob h; obtain ⟨x6, ex6, h⟩ := h
    refine sx_callV (As := []) (rest := []) C hs (c_X7_isFull ex6) mo_X7_isFull q1146 i5 rfl rfl hl.1 ⟨⟨(Nat.le_of_ble_eq_true rfl), (Nat.le_of_ble_eq_true rfl)⟩, (Nat.le_of_ble_eq_true rfl), (Nat.le_of_ble_eq_true rfl)⟩ rfl (Nat.le_of_ble_eq_true rfl) dX11_weigh_13 (fun H locs hs => ?_)
    refine W.eq (g2 := F0 m 16 ls [.int x6]) rfl ?_
    refine lv_if_eq (tgt := 30) C.1 C.2.1 dX11_weigh_16 (by decide) (fun c7 => ?_) (fun c7 => ?_)
    · replace h := ip c7 h
      refine lv_aload_n C.1 C.2.1 dX11_weigh_30 rfl (lv_at hl 0 rfl) ?_
      replace h := ob h; obtain ⟨p8, ep8, h⟩ := h
      refine sx_getV C hs fo_X11_53 (gR_v ep8) dX11_weigh_31 ?_
      refine lv_iload_n C.1 C.2.1 dX11_weigh_34 rfl (lv_at hl 1 rfl) ?_
      replace h := ob h; obtain ⟨⟨⟩, i9, h⟩ := h
      replace h := ob2 h; obtain ⟨x10, τ11, ex10, h⟩ := h
      refine sx_callV (As := [.int v1]) (rest := []) C hs (c_X7_add ex10) mo_X7_add q1151 i9 rfl rfl hl.1 ⟨⟨(Nat.le_of_ble_eq_true rfl), (Nat.le_of_ble_eq_true rfl)⟩, (Nat.le_of_ble_eq_true rfl), (Nat.le_of_ble_eq_true rfl)⟩ rfl (Nat.le_of_ble_eq_true rfl) dX11_weigh_35 (fun H locs hs => ?_)
      refine W.eq (g2 := F0 m 38 ls [.int x10]) rfl ?_
      cases h
      exact sx_iretX C hs hr rfl dX11_weigh_38
    · replace h := iN c7 h
      cases h
      exact sx_throwW C hfl hs to_X11_99_355 ht hl.1 dX11_weigh_19 dX11_weigh_22 dX11_weigh_23 dX11_weigh_26 dX11_weigh_29 ⟨by decide, (Nat.le_of_ble_eq_true rfl), (Nat.le_of_ble_eq_true rfl), (Nat.le_of_ble_eq_true rfl)⟩ ⟨(Nat.le_of_ble_eq_true rfl), (Nat.le_of_ble_eq_true rfl)⟩
def b_X11_share_37 (N : Nat) (σ : Sto) (a0 : Nat) (v1 : Int64) (v3 : Int32) : Option ((Nat ⊕ Int32) × Sto) :=
 (gR σ a0 10 8).bind fun p1 =>
 (isO σ p1 6).bind fun _ =>
 (f_X7_allWeights N σ p1).bind fun x3 =>
 if x3 = 0 then
 some (.inl 5, σ)
 else
 (gR σ a0 10 8).bind fun p5 =>
 (isO σ p5 6).bind fun _ =>
 b2 (f_X7_split N σ p5 v1 v3) fun x7 τ8 =>
 some (.inr x7, τ8)
def f_X11_share (N : Nat) (σ : Sto) (a0 : Nat) (v1 : Int64) (v3 : Int32) : Option ((Nat ⊕ Int32) × Sto) :=
 (f_X11_checkRange v1 0 1000000000000).bind fun u2 =>
 bs u2 (fun j3 => some (.inl j3, σ)) fun x1 =>
 if v3 = 108 then
 b_X11_share_37 N σ a0 v1 v3
 else
 if v3 = 102 then
 b_X11_share_37 N σ a0 v1 v3
 else
 if v3 = 98 then
 b_X11_share_37 N σ a0 v1 v3
 else
 some (.inl 1, σ)
set_option maxHeartbeats 4000000 in
set_option maxRecDepth 100000 in
theorem t_X11_share_37 {l : Launch} {g : PP} {p : Program} {e : Env} {s : State} {m : MethodId} {args : Array Value} {below : List Frame} {meth : Method} {c : Code} (hfl : l.stackTraces = false) (C : Cx g p s m meth c cX11_share 4 "Tillhouse") (hr : meth.sig.returnType = some .int) (ht : ∀ x ∈ c.exceptionTable.toList, False) {N : Nat}  {σ : Sto} {sz : Nat} {a0 : Nat} {v1 : Int64} {v3 : Int32} {r9 : Nat ⊕ Int32} {σ9 : Sto}
    (h : b_X11_share_37 N σ a0 v1 v3 = some (r9, σ9)) 
    {H : Heap} {locs : List Loc} {ls : Array Slot} (hs : HS g s σ sz H locs) (hl : lv_has ls 4 [(0, .ref a0), (1, .long v1), (3, .int v3)]) : W p l e (rmk 7 (cX r9) (cY r9) 125) s m args below meth c H locs 0 0 (vx_MQ below (PstX g (Sum.map id vI r9) σ9 sz) (XpX g (Sum.map id vI r9) σ9 sz) args s (cX r9) (cY r9) (Aw g)) (F0 m 37 ls []) := by
  unfold b_X11_share_37 at h
  refine lv_aload_n C.1 C.2.1 dX11_share_37 rfl (lv_at hl 0 rfl) ?_
  replace h := ob h; obtain ⟨p1, ep1, h⟩ := h
  refine sx_getV C hs fo_X11_53 (gR_v ep1) dX11_share_38 ?_
  replace h := ob h; obtain ⟨⟨⟩, i2, h⟩ := h
  replace h := ob h; obtain ⟨x3, ex3, h⟩ := h
  refine sx_callV (As := []) (rest := []) C hs (c_X7_allWeights ex3) mo_X7_allWeights q1163 i2 rfl rfl hl.1 ⟨⟨(Nat.le_of_ble_eq_true rfl), (Nat.le_of_ble_eq_true rfl)⟩, (Nat.le_of_ble_eq_true rfl), (Nat.le_of_ble_eq_true rfl)⟩ rfl (Nat.le_of_ble_eq_true rfl) dX11_share_41 (fun H locs hs => ?_)
  refine W.eq (g2 := F0 m 44 ls [.long x3]) rfl ?_
  refine lv_lconst (v := 0) C.1 C.2.1 dX11_share_44 (by decide) ?_
  refine W.lcmp C.1 C.2.1 dX11_share_45 ?_
  refine lv_if_ne (tgt := 60) C.1 C.2.1 dX11_share_46 (by decide) (fun c4 => ?_) (fun c4 => ?_)
  · replace h := iN (fun q => c4 ((lg_cmp_eq _ _).mpr q)) h
    refine lv_aload_n C.1 C.2.1 dX11_share_60 rfl (lv_at hl 0 rfl) ?_
    replace h := ob h; obtain ⟨p5, ep5, h⟩ := h
    refine sx_getV C hs fo_X11_53 (gR_v ep5) dX11_share_61 ?_
    refine lv_lload_n C.1 C.2.1 dX11_share_64 rfl (lv_at hl 1 rfl) ?_
    refine lv_iload_n C.1 C.2.1 dX11_share_65 rfl (lv_at hl 2 rfl) ?_
    replace h := ob h; obtain ⟨⟨⟩, i6, h⟩ := h
    replace h := ob2 h; obtain ⟨x7, τ8, ex7, h⟩ := h
    refine sx_callV (As := [.long v1, .int v3]) (rest := []) C hs (c_X7_split ex7) mo_X7_split q1168 i6 rfl rfl hl.1 ⟨⟨(Nat.le_of_ble_eq_true rfl), (Nat.le_of_ble_eq_true rfl)⟩, (Nat.le_of_ble_eq_true rfl), (Nat.le_of_ble_eq_true rfl)⟩ rfl (Nat.le_of_ble_eq_true rfl) dX11_share_66 (fun H locs hs => ?_)
    refine W.eq (g2 := F0 m 69 ls [.int x7]) rfl ?_
    cases h
    exact sx_iretX C hs hr rfl dX11_share_69
  · replace h := ip ((lg_cmp_eq _ _).mp c4) h
    cases h
    exact sx_throwW C hfl hs to_X11_312_365 ht hl.1 dX11_share_49 dX11_share_52 dX11_share_53 dX11_share_56 dX11_share_59 ⟨by decide, (Nat.le_of_ble_eq_true rfl), (Nat.le_of_ble_eq_true rfl), (Nat.le_of_ble_eq_true rfl)⟩ ⟨(Nat.le_of_ble_eq_true rfl), (Nat.le_of_ble_eq_true rfl)⟩
set_option maxHeartbeats 4000000 in
set_option maxRecDepth 100000 in
theorem c_X11_share {l : Launch} (hfl : l.stackTraces = false) {g : PP} {N : Nat} {σ : Sto} {sz : Nat} {a0 : Nat} {v1 : Int64} {v3 : Int32} {r9 : Nat ⊕ Int32} {σ9 : Sto} (h : f_X11_share N σ a0 v1 v3 = some (r9, σ9)) : vx_Met l yX11_share [Cond.code yX11_share cX11_share 4 (some .int)] (rmk 7 (cX r9) (cY r9) 125) (Pre g σ sz [.ref a0, .long v1, .int v3]) (PstX g (Sum.map id vI r9) σ9 sz) (XpX g (Sum.map id vI r9) σ9 sz) (cX r9) (cY r9) (Aw g) := by
  refine vx_ofW (cc := cX11_share) (maxL := 4) (ret := (some .int)) (by decide) rfl ?_
  intro p e s m args below meth c s₁ B hml ht hv
  obtain ⟨rfl, C, hs⟩ := ctx_of B hml hv
  have C : Cx g p s m meth c cX11_share 4 "Tillhouse" := C
  have hr := B.returns
  have hl := lv_entry ([.ref a0, .long v1, .int v3]) (n := 4) (Nat.le_of_ble_eq_true rfl)
  rw [lg_entry_eq]
  generalize (lg_sl ([.ref a0, .long v1, .int v3]) ++ List.replicate (4 - (lg_sl ([.ref a0, .long v1, .int v3])).length) Slot.unset).toArray = ls at hl ⊢
  have hl : lv_has ls 4 [(0, .ref a0), (1, .long v1), (3, .int v3)] := hl
  unfold f_X11_share at h
  refine lv_lload_n C.1 C.2.1 dX11_share_0 rfl (lv_at hl 1 rfl) ?_
  refine lv_lconst (v := 0) C.1 C.2.1 dX11_share_1 (by decide) ?_
  refine lv_ldc2 (v := 1000000000000) C.1 C.2.1 C.2.2.2.1 (C.2.2.2.2.1.1 _ q876 _) dX11_share_2 ?_
  replace h := ob h; obtain ⟨u2, ex1, h⟩ := h
  rcases u2 with j3 | x1
  · replace h := bsl h
    cases h
    refine sx_xcallS (As := [.long v1, .long 0, .long 1000000000000]) (rest := []) C hs (c_X11_checkRange hfl ex1) mo_X11_checkRange q842 rfl hl.1 ⟨⟨(Nat.le_of_ble_eq_true rfl), (Nat.le_of_ble_eq_true rfl)⟩, (Nat.le_of_ble_eq_true rfl), (Nat.le_of_ble_eq_true rfl)⟩ rfl (Nat.le_of_ble_eq_true rfl) dX11_share_5 (fun k9 hk9 ce q9 H locs a1 a2 a3 a4 a5 a6 => ?_) (fun vr hv => (inlr hv).elim)
    obtain rfl := Sum.inl.inj hk9
    exact sx_out C ht a1 a2 a3 a4 a5 a6 (Nat.le_of_ble_eq_true rfl) (Nat.le_of_ble_eq_true rfl)
  · replace h := bsr h
    refine sx_xcallS (As := [.long v1, .long 0, .long 1000000000000]) (rest := []) C hs (c_X11_checkRange hfl ex1) mo_X11_checkRange q842 rfl hl.1 ⟨⟨(Nat.le_of_ble_eq_true rfl), (Nat.le_of_ble_eq_true rfl)⟩, (Nat.le_of_ble_eq_true rfl), (Nat.le_of_ble_eq_true rfl)⟩ rfl (Nat.le_of_ble_eq_true rfl) dX11_share_5 (fun k9 hk9 => (inrl hk9).elim) (fun vr hv H locs hs => ?_)
    obtain rfl := Sum.inr.inj hv
    refine W.eq (g2 := F0 m 8 ls []) rfl ?_
    refine W.widen (k := 0) (n := 0) (Nat.le_of_ble_eq_true rfl) (Nat.le_of_ble_eq_true rfl) ?_
    refine lv_iload_n C.1 C.2.1 dX11_share_8 rfl (lv_at hl 2 rfl) ?_
    refine lv_bipush (v := 108) C.1 C.2.1 dX11_share_9 (by decide) ?_
    refine lv_icmp_eq (tgt := 37) C.1 C.2.1 dX11_share_11 (by decide) (fun c4 => ?_) (fun c4 => ?_)
    · replace h := ip c4 h
      exact t_X11_share_37 hfl C hr ht h hs (lv_sub hl [0, 1, 2] rfl)
    · replace h := iN c4 h
      refine lv_iload_n C.1 C.2.1 dX11_share_14 rfl (lv_at hl 2 rfl) ?_
      refine lv_bipush (v := 102) C.1 C.2.1 dX11_share_15 (by decide) ?_
      refine lv_icmp_eq (tgt := 37) C.1 C.2.1 dX11_share_17 (by decide) (fun c5 => ?_) (fun c5 => ?_)
      · replace h := ip c5 h
        exact t_X11_share_37 hfl C hr ht h hs (lv_sub hl [0, 1, 2] rfl)
      · replace h := iN c5 h
        refine lv_iload_n C.1 C.2.1 dX11_share_20 rfl (lv_at hl 2 rfl) ?_
        refine lv_bipush (v := 98) C.1 C.2.1 dX11_share_21 (by decide) ?_
        refine lv_icmp_eq (tgt := 37) C.1 C.2.1 dX11_share_23 (by decide) (fun c6 => ?_) (fun c6 => ?_)
        · replace h := ip c6 h
          exact t_X11_share_37 hfl C hr ht h hs (lv_sub hl [0, 1, 2] rfl)
        · replace h := iN c6 h
          cases h
          exact sx_throwW C hfl hs to_X11_81_359 ht hl.1 dX11_share_26 dX11_share_29 dX11_share_30 dX11_share_33 dX11_share_36 ⟨by decide, (Nat.le_of_ble_eq_true rfl), (Nat.le_of_ble_eq_true rfl), (Nat.le_of_ble_eq_true rfl)⟩ ⟨(Nat.le_of_ble_eq_true rfl), (Nat.le_of_ble_eq_true rfl)⟩
def f_X11_part (σ : Sto) (a0 : Nat) (v1 : Int32) : Option ((Nat ⊕ Int64)) :=
 if v1 < 0 then
 some (.inl 2)
 else
 (gR σ a0 10 8).bind fun p2 =>
 (gI σ p2 6 3).bind fun x3 =>
 if v1 < x3 then
 (gR σ a0 10 8).bind fun p5 =>
 (gR σ p5 6 2).bind fun p6 =>
 (aL σ p6 2 v1).bind fun x7 =>
 some (.inr x7)
 else
 some (.inl 2)
set_option maxHeartbeats 4000000 in
set_option maxRecDepth 100000 in
theorem c_X11_part {l : Launch} (hfl : l.stackTraces = false) {g : PP} {σ : Sto} {sz : Nat} {a0 : Nat} {v1 : Int32} {r9 : Nat ⊕ Int64} (h : f_X11_part σ a0 v1 = some r9) : vx_Met l yX11_part [Cond.code yX11_part cX11_part 2 (some .long)] (rmk 6 (cX r9) (cY r9) 100) (Pre g σ sz [.ref a0, .int v1]) (PstX g (Sum.map id vL r9) σ sz) (XpX g (Sum.map id vL r9) σ sz) (cX r9) (cY r9) (Aw g) := by
  refine vx_ofW (cc := cX11_part) (maxL := 2) (ret := (some .long)) (by decide) rfl ?_
  intro p e s m args below meth c s₁ B hml ht hv
  obtain ⟨rfl, C, hs⟩ := ctx_of B hml hv
  have C : Cx g p s m meth c cX11_part 2 "Tillhouse" := C
  have hr := B.returns
  have hl := lv_entry ([.ref a0, .int v1]) (n := 2) (Nat.le_of_ble_eq_true rfl)
  rw [lg_entry_eq]
  generalize (lg_sl ([.ref a0, .int v1]) ++ List.replicate (2 - (lg_sl ([.ref a0, .int v1])).length) Slot.unset).toArray = ls at hl ⊢
  have hl : lv_has ls 2 [(0, .ref a0), (1, .int v1)] := hl
  unfold f_X11_part at h
  refine lv_iload_n C.1 C.2.1 dX11_part_0 rfl (lv_at hl 1 rfl) ?_
  refine lv_if_lt (tgt := 15) C.1 C.2.1 dX11_part_1 (by decide) (fun c1 => ?_) (fun c1 => ?_)
  · replace h := ip c1 h
    cases h
    exact sx_throwNW C hfl hs to_X11_210_374 ht hl.1 dX11_part_15 dX11_part_18 dX11_part_19 dX11_part_22 dX11_part_25 ⟨by decide, (Nat.le_of_ble_eq_true rfl), (Nat.le_of_ble_eq_true rfl), (Nat.le_of_ble_eq_true rfl)⟩ ⟨(Nat.le_of_ble_eq_true rfl), (Nat.le_of_ble_eq_true rfl)⟩
  · replace h := iN c1 h
    refine lv_iload_n C.1 C.2.1 dX11_part_4 rfl (lv_at hl 1 rfl) ?_
    refine lv_aload_n C.1 C.2.1 dX11_part_5 rfl (lv_at hl 0 rfl) ?_
    replace h := ob h; obtain ⟨p2, ep2, h⟩ := h
    refine sx_getV C hs fo_X11_53 (gR_v ep2) dX11_part_6 ?_
    replace h := ob h; obtain ⟨x3, ex3, h⟩ := h
    refine sx_getV C hs fo_X11_371 (gI_v ex3) dX11_part_9 ?_
    refine lv_icmp_lt (tgt := 26) C.1 C.2.1 dX11_part_12 (by decide) (fun c4 => ?_) (fun c4 => ?_)
    · replace h := ip c4 h
      refine lv_aload_n C.1 C.2.1 dX11_part_26 rfl (lv_at hl 0 rfl) ?_
      replace h := ob h; obtain ⟨p5, ep5, h⟩ := h
      refine sx_getV C hs fo_X11_53 (gR_v ep5) dX11_part_27 ?_
      replace h := ob h; obtain ⟨p6, ep6, h⟩ := h
      refine sx_getV C hs fo_X11_376 (gR_v ep6) dX11_part_30 ?_
      refine lv_iload_n C.1 C.2.1 dX11_part_33 rfl (lv_at hl 1 rfl) ?_
      replace h := ob h; obtain ⟨x7, ex7, h⟩ := h
      refine sx_lald C hs ex7 dX11_part_34 ?_
      cases h
      exact sx_lretX C hs hr dX11_part_35
    · replace h := iN c4 h
      cases h
      exact sx_throwNW C hfl hs to_X11_210_374 ht hl.1 dX11_part_15 dX11_part_18 dX11_part_19 dX11_part_22 dX11_part_25 ⟨by decide, (Nat.le_of_ble_eq_true rfl), (Nat.le_of_ble_eq_true rfl), (Nat.le_of_ble_eq_true rfl)⟩ ⟨(Nat.le_of_ble_eq_true rfl), (Nat.le_of_ble_eq_true rfl)⟩
def b_X11_interest_62 (v1 : Int64) (v3 : Int32) (v4 : Int32) (v5 : Int32) (v6 : Int32) : Option ((Nat ⊕ Int64)) :=
 (f_X11_checkMode v6).bind fun u2 =>
 bs u2 (fun j3 => some (.inl j3)) fun x1 =>
 (f_X6_partOf (v1 * (Int32.toInt64 v3)) v4 (10000 * (Int32.toInt64 v5)) v6).bind fun u5 =>
 bs u5 (fun j6 => some (.inl j6)) fun x4 =>
 some (.inr x4)
def f_X11_interest (a0 : Nat) (v1 : Int64) (v3 : Int32) (v4 : Int32) (v5 : Int32) (v6 : Int32) : Option ((Nat ⊕ Int64)) :=
 (f_X11_checkRange v1 0 1000000000000).bind fun u2 =>
 bs u2 (fun j3 => some (.inl j3)) fun x1 =>
 (f_X11_checkRange (Int32.toInt64 v3) 0 9999).bind fun u5 =>
 bs u5 (fun j6 => some (.inl j6)) fun x4 =>
 (f_X11_checkRange (Int32.toInt64 v4) 0 9999).bind fun u8 =>
 bs u8 (fun j9 => some (.inl j9)) fun x7 =>
 if v5 = 360 then
 b_X11_interest_62 v1 v3 v4 v5 v6
 else
 if v5 = 365 then
 b_X11_interest_62 v1 v3 v4 v5 v6
 else
 if v5 = 366 then
 b_X11_interest_62 v1 v3 v4 v5 v6
 else
 some (.inl 1)
set_option maxHeartbeats 4000000 in
set_option maxRecDepth 100000 in
theorem t_X11_interest_62 {l : Launch} {g : PP} {p : Program} {e : Env} {s : State} {m : MethodId} {args : Array Value} {below : List Frame} {meth : Method} {c : Code} (hfl : l.stackTraces = false) (C : Cx g p s m meth c cX11_interest 7 "Tillhouse") (hr : meth.sig.returnType = some .long) (ht : ∀ x ∈ c.exceptionTable.toList, False)   {σ : Sto} {sz : Nat} {v1 : Int64} {v3 : Int32} {v4 : Int32} {v5 : Int32} {v6 : Int32} {r9 : Nat ⊕ Int64}
    (h : b_X11_interest_62 v1 v3 v4 v5 v6 = some r9) 
    {H : Heap} {locs : List Loc} {ls : Array Slot} (hs : HS g s σ sz H locs) (hl : lv_has ls 7 [(1, .long v1), (3, .int v3), (4, .int v4), (5, .int v5), (6, .int v6)]) : W p l e (rmk 9 (cX r9) (cY r9) 177) s m args below meth c H locs 0 0 (vx_MQ below (PstX g (Sum.map id vL r9) σ sz) (XpX g (Sum.map id vL r9) σ sz) args s (cX r9) (cY r9) (Aw g)) (F0 m 62 ls []) := by
  unfold b_X11_interest_62 at h
  refine lv_iload C.1 C.2.1 dX11_interest_62 (lv_at hl 4 rfl) ?_
  replace h := ob h; obtain ⟨u2, ex1, h⟩ := h
  rcases u2 with j3 | x1
  · replace h := bsl h
    cases h
    refine sx_xcallS (As := [.int v6]) (rest := []) C hs (c_X11_checkMode hfl ex1) mo_X11_checkMode q701 rfl hl.1 ⟨⟨(Nat.le_of_ble_eq_true rfl), (Nat.le_of_ble_eq_true rfl)⟩, (Nat.le_of_ble_eq_true rfl), (Nat.le_of_ble_eq_true rfl)⟩ rfl (Nat.le_of_ble_eq_true rfl) dX11_interest_64 (fun k9 hk9 ce q9 H locs a1 a2 a3 a4 a5 a6 => ?_) (fun vr hv => (inlr hv).elim)
    obtain rfl := Sum.inl.inj hk9
    exact sx_out C ht a1 a2 a3 a4 a5 a6 (Nat.le_of_ble_eq_true rfl) (Nat.le_of_ble_eq_true rfl)
  · replace h := bsr h
    refine sx_xcallS (As := [.int v6]) (rest := []) C hs (c_X11_checkMode hfl ex1) mo_X11_checkMode q701 rfl hl.1 ⟨⟨(Nat.le_of_ble_eq_true rfl), (Nat.le_of_ble_eq_true rfl)⟩, (Nat.le_of_ble_eq_true rfl), (Nat.le_of_ble_eq_true rfl)⟩ rfl (Nat.le_of_ble_eq_true rfl) dX11_interest_64 (fun k9 hk9 => (inrl hk9).elim) (fun vr hv H locs hs => ?_)
    obtain rfl := Sum.inr.inj hv
    refine W.eq (g2 := F0 m 67 ls []) rfl ?_
    refine W.widen (k := 0) (n := 0) (Nat.le_of_ble_eq_true rfl) (Nat.le_of_ble_eq_true rfl) ?_
    refine lv_lload_n C.1 C.2.1 dX11_interest_67 rfl (lv_at hl 0 rfl) ?_
    refine lv_iload_n C.1 C.2.1 dX11_interest_68 rfl (lv_at hl 1 rfl) ?_
    refine lv_i2l (v := Int32.toInt64 v3) C.1 C.2.1 dX11_interest_69 rfl ?_
    refine lv_lmul C.1 C.2.1 dX11_interest_70 ?_
    refine lv_iload C.1 C.2.1 dX11_interest_71 (lv_at hl 2 rfl) ?_
    refine lv_ldc2 (v := 10000) C.1 C.2.1 C.2.2.2.1 (C.2.2.2.2.1.1 _ q1202 _) dX11_interest_73 ?_
    refine lv_iload C.1 C.2.1 dX11_interest_76 (lv_at hl 3 rfl) ?_
    refine lv_i2l (v := Int32.toInt64 v5) C.1 C.2.1 dX11_interest_78 rfl ?_
    refine lv_lmul C.1 C.2.1 dX11_interest_79 ?_
    refine lv_iload C.1 C.2.1 dX11_interest_80 (lv_at hl 4 rfl) ?_
    replace h := ob h; obtain ⟨u5, ex4, h⟩ := h
    rcases u5 with j6 | x4
    · replace h := bsl h
      cases h
      refine sx_xcallS (As := [.long (v1 * (Int32.toInt64 v3)), .int v4, .long (10000 * (Int32.toInt64 v5)), .int v6]) (rest := []) C hs (c_X6_partOf hfl ex4) mo_X6_partOf q1203 rfl hl.1 ⟨⟨(Nat.le_of_ble_eq_true rfl), (Nat.le_of_ble_eq_true rfl)⟩, (Nat.le_of_ble_eq_true rfl), (Nat.le_of_ble_eq_true rfl)⟩ rfl (Nat.le_of_ble_eq_true rfl) dX11_interest_82 (fun k9 hk9 ce q9 H locs a1 a2 a3 a4 a5 a6 => ?_) (fun vr hv => (inlr hv).elim)
      obtain rfl := Sum.inl.inj hk9
      exact sx_out C ht a1 a2 a3 a4 a5 a6 (Nat.le_of_ble_eq_true rfl) (Nat.le_of_ble_eq_true rfl)
    · replace h := bsr h
      refine sx_xcallS (As := [.long (v1 * (Int32.toInt64 v3)), .int v4, .long (10000 * (Int32.toInt64 v5)), .int v6]) (rest := []) C hs (c_X6_partOf hfl ex4) mo_X6_partOf q1203 rfl hl.1 ⟨⟨(Nat.le_of_ble_eq_true rfl), (Nat.le_of_ble_eq_true rfl)⟩, (Nat.le_of_ble_eq_true rfl), (Nat.le_of_ble_eq_true rfl)⟩ rfl (Nat.le_of_ble_eq_true rfl) dX11_interest_82 (fun k9 hk9 => (inrl hk9).elim) (fun vr hv H locs hs => ?_)
      obtain rfl := Sum.inr.inj hv
      refine W.eq (g2 := F0 m 85 ls [.long x4]) rfl ?_
      refine W.widen (k := 0) (n := 0) (Nat.le_of_ble_eq_true rfl) (Nat.le_of_ble_eq_true rfl) ?_
      cases h
      exact sx_lretX C hs hr dX11_interest_85
set_option maxHeartbeats 4000000 in
set_option maxRecDepth 100000 in
theorem c_X11_interest {l : Launch} (hfl : l.stackTraces = false) {g : PP} {σ : Sto} {sz : Nat} {a0 : Nat} {v1 : Int64} {v3 : Int32} {v4 : Int32} {v5 : Int32} {v6 : Int32} {r9 : Nat ⊕ Int64} (h : f_X11_interest a0 v1 v3 v4 v5 v6 = some r9) : vx_Met l yX11_interest [Cond.code yX11_interest cX11_interest 7 (some .long)] (rmk 9 (cX r9) (cY r9) 177) (Pre g σ sz [.ref a0, .long v1, .int v3, .int v4, .int v5, .int v6]) (PstX g (Sum.map id vL r9) σ sz) (XpX g (Sum.map id vL r9) σ sz) (cX r9) (cY r9) (Aw g) := by
  refine vx_ofW (cc := cX11_interest) (maxL := 7) (ret := (some .long)) (by decide) rfl ?_
  intro p e s m args below meth c s₁ B hml ht hv
  obtain ⟨rfl, C, hs⟩ := ctx_of B hml hv
  have C : Cx g p s m meth c cX11_interest 7 "Tillhouse" := C
  have hr := B.returns
  have hl := lv_entry ([.ref a0, .long v1, .int v3, .int v4, .int v5, .int v6]) (n := 7) (Nat.le_of_ble_eq_true rfl)
  rw [lg_entry_eq]
  generalize (lg_sl ([.ref a0, .long v1, .int v3, .int v4, .int v5, .int v6]) ++ List.replicate (7 - (lg_sl ([.ref a0, .long v1, .int v3, .int v4, .int v5, .int v6])).length) Slot.unset).toArray = ls at hl ⊢
  have hl : lv_has ls 7 [(0, .ref a0), (1, .long v1), (3, .int v3), (4, .int v4), (5, .int v5), (6, .int v6)] := hl
  unfold f_X11_interest at h
  refine lv_lload_n C.1 C.2.1 dX11_interest_0 rfl (lv_at hl 1 rfl) ?_
  refine lv_lconst (v := 0) C.1 C.2.1 dX11_interest_1 (by decide) ?_
  refine lv_ldc2 (v := 1000000000000) C.1 C.2.1 C.2.2.2.1 (C.2.2.2.2.1.1 _ q876 _) dX11_interest_2 ?_
  replace h := ob h; obtain ⟨u2, ex1, h⟩ := h
  rcases u2 with j3 | x1
  · replace h := bsl h
    cases h
    refine sx_xcallS (As := [.long v1, .long 0, .long 1000000000000]) (rest := []) C hs (c_X11_checkRange hfl ex1) mo_X11_checkRange q842 rfl hl.1 ⟨⟨(Nat.le_of_ble_eq_true rfl), (Nat.le_of_ble_eq_true rfl)⟩, (Nat.le_of_ble_eq_true rfl), (Nat.le_of_ble_eq_true rfl)⟩ rfl (Nat.le_of_ble_eq_true rfl) dX11_interest_5 (fun k9 hk9 ce q9 H locs a1 a2 a3 a4 a5 a6 => ?_) (fun vr hv => (inlr hv).elim)
    obtain rfl := Sum.inl.inj hk9
    exact sx_out C ht a1 a2 a3 a4 a5 a6 (Nat.le_of_ble_eq_true rfl) (Nat.le_of_ble_eq_true rfl)
  · replace h := bsr h
    refine sx_xcallS (As := [.long v1, .long 0, .long 1000000000000]) (rest := []) C hs (c_X11_checkRange hfl ex1) mo_X11_checkRange q842 rfl hl.1 ⟨⟨(Nat.le_of_ble_eq_true rfl), (Nat.le_of_ble_eq_true rfl)⟩, (Nat.le_of_ble_eq_true rfl), (Nat.le_of_ble_eq_true rfl)⟩ rfl (Nat.le_of_ble_eq_true rfl) dX11_interest_5 (fun k9 hk9 => (inrl hk9).elim) (fun vr hv H locs hs => ?_)
    obtain rfl := Sum.inr.inj hv
    refine W.eq (g2 := F0 m 8 ls []) rfl ?_
    refine W.widen (k := 0) (n := 0) (Nat.le_of_ble_eq_true rfl) (Nat.le_of_ble_eq_true rfl) ?_
    refine lv_iload_n C.1 C.2.1 dX11_interest_8 rfl (lv_at hl 2 rfl) ?_
    refine lv_i2l (v := Int32.toInt64 v3) C.1 C.2.1 dX11_interest_9 rfl ?_
    refine lv_lconst (v := 0) C.1 C.2.1 dX11_interest_10 (by decide) ?_
    refine lv_ldc2 (v := 9999) C.1 C.2.1 C.2.2.2.1 (C.2.2.2.2.1.1 _ q943 _) dX11_interest_11 ?_
    replace h := ob h; obtain ⟨u5, ex4, h⟩ := h
    rcases u5 with j6 | x4
    · replace h := bsl h
      cases h
      refine sx_xcallS (As := [.long (Int32.toInt64 v3), .long 0, .long 9999]) (rest := []) C hs (c_X11_checkRange hfl ex4) mo_X11_checkRange q842 rfl hl.1 ⟨⟨(Nat.le_of_ble_eq_true rfl), (Nat.le_of_ble_eq_true rfl)⟩, (Nat.le_of_ble_eq_true rfl), (Nat.le_of_ble_eq_true rfl)⟩ rfl (Nat.le_of_ble_eq_true rfl) dX11_interest_14 (fun k9 hk9 ce q9 H locs a1 a2 a3 a4 a5 a6 => ?_) (fun vr hv => (inlr hv).elim)
      obtain rfl := Sum.inl.inj hk9
      exact sx_out C ht a1 a2 a3 a4 a5 a6 (Nat.le_of_ble_eq_true rfl) (Nat.le_of_ble_eq_true rfl)
    · replace h := bsr h
      refine sx_xcallS (As := [.long (Int32.toInt64 v3), .long 0, .long 9999]) (rest := []) C hs (c_X11_checkRange hfl ex4) mo_X11_checkRange q842 rfl hl.1 ⟨⟨(Nat.le_of_ble_eq_true rfl), (Nat.le_of_ble_eq_true rfl)⟩, (Nat.le_of_ble_eq_true rfl), (Nat.le_of_ble_eq_true rfl)⟩ rfl (Nat.le_of_ble_eq_true rfl) dX11_interest_14 (fun k9 hk9 => (inrl hk9).elim) (fun vr hv H locs hs => ?_)
      obtain rfl := Sum.inr.inj hv
      refine W.eq (g2 := F0 m 17 ls []) rfl ?_
      refine W.widen (k := 0) (n := 0) (Nat.le_of_ble_eq_true rfl) (Nat.le_of_ble_eq_true rfl) ?_
      refine lv_iload C.1 C.2.1 dX11_interest_17 (lv_at hl 3 rfl) ?_
      refine lv_i2l (v := Int32.toInt64 v4) C.1 C.2.1 dX11_interest_19 rfl ?_
      refine lv_lconst (v := 0) C.1 C.2.1 dX11_interest_20 (by decide) ?_
      refine lv_ldc2 (v := 9999) C.1 C.2.1 C.2.2.2.1 (C.2.2.2.2.1.1 _ q943 _) dX11_interest_21 ?_
      replace h := ob h; obtain ⟨u8, ex7, h⟩ := h
      rcases u8 with j9 | x7
      · replace h := bsl h
        cases h
        refine sx_xcallS (As := [.long (Int32.toInt64 v4), .long 0, .long 9999]) (rest := []) C hs (c_X11_checkRange hfl ex7) mo_X11_checkRange q842 rfl hl.1 ⟨⟨(Nat.le_of_ble_eq_true rfl), (Nat.le_of_ble_eq_true rfl)⟩, (Nat.le_of_ble_eq_true rfl), (Nat.le_of_ble_eq_true rfl)⟩ rfl (Nat.le_of_ble_eq_true rfl) dX11_interest_24 (fun k9 hk9 ce q9 H locs a1 a2 a3 a4 a5 a6 => ?_) (fun vr hv => (inlr hv).elim)
        obtain rfl := Sum.inl.inj hk9
        exact sx_out C ht a1 a2 a3 a4 a5 a6 (Nat.le_of_ble_eq_true rfl) (Nat.le_of_ble_eq_true rfl)
      · replace h := bsr h
        refine sx_xcallS (As := [.long (Int32.toInt64 v4), .long 0, .long 9999]) (rest := []) C hs (c_X11_checkRange hfl ex7) mo_X11_checkRange q842 rfl hl.1 ⟨⟨(Nat.le_of_ble_eq_true rfl), (Nat.le_of_ble_eq_true rfl)⟩, (Nat.le_of_ble_eq_true rfl), (Nat.le_of_ble_eq_true rfl)⟩ rfl (Nat.le_of_ble_eq_true rfl) dX11_interest_24 (fun k9 hk9 => (inrl hk9).elim) (fun vr hv H locs hs => ?_)
        obtain rfl := Sum.inr.inj hv
        refine W.eq (g2 := F0 m 27 ls []) rfl ?_
        refine W.widen (k := 0) (n := 0) (Nat.le_of_ble_eq_true rfl) (Nat.le_of_ble_eq_true rfl) ?_
        refine lv_iload C.1 C.2.1 dX11_interest_27 (lv_at hl 4 rfl) ?_
        refine lv_sipush (v := 360) C.1 C.2.1 dX11_interest_29 (by decide) ?_
        refine lv_icmp_eq (tgt := 62) C.1 C.2.1 dX11_interest_32 (by decide) (fun c10 => ?_) (fun c10 => ?_)
        · replace h := ip c10 h
          exact t_X11_interest_62 hfl C hr ht h hs (lv_sub hl [1, 2, 3, 4, 5] rfl)
        · replace h := iN c10 h
          refine lv_iload C.1 C.2.1 dX11_interest_35 (lv_at hl 4 rfl) ?_
          refine lv_sipush (v := 365) C.1 C.2.1 dX11_interest_37 (by decide) ?_
          refine lv_icmp_eq (tgt := 62) C.1 C.2.1 dX11_interest_40 (by decide) (fun c11 => ?_) (fun c11 => ?_)
          · replace h := ip c11 h
            exact t_X11_interest_62 hfl C hr ht h hs (lv_sub hl [1, 2, 3, 4, 5] rfl)
          · replace h := iN c11 h
            refine lv_iload C.1 C.2.1 dX11_interest_43 (lv_at hl 4 rfl) ?_
            refine lv_sipush (v := 366) C.1 C.2.1 dX11_interest_45 (by decide) ?_
            refine lv_icmp_eq (tgt := 62) C.1 C.2.1 dX11_interest_48 (by decide) (fun c12 => ?_) (fun c12 => ?_)
            · replace h := ip c12 h
              exact t_X11_interest_62 hfl C hr ht h hs (lv_sub hl [1, 2, 3, 4, 5] rfl)
            · replace h := iN c12 h
              cases h
              exact sx_throwW C hfl hs to_X11_81_380 ht hl.1 dX11_interest_51 dX11_interest_54 dX11_interest_55 dX11_interest_58 dX11_interest_61 ⟨by decide, (Nat.le_of_ble_eq_true rfl), (Nat.le_of_ble_eq_true rfl), (Nat.le_of_ble_eq_true rfl)⟩ ⟨(Nat.le_of_ble_eq_true rfl), (Nat.le_of_ble_eq_true rfl)⟩
def f_X11_lend (N : Nat) (σ : Sto) (a0 : Nat) (v1 : Int64) (v3 : Int32) (v4 : Int64) : Option ((Nat ⊕ Int32) × Sto) :=
 (f_X11_checkRange v1 1 1000000000000).bind fun u2 =>
 bs u2 (fun j3 => some (.inl j3, σ)) fun x1 =>
 (f_X11_checkRange (Int32.toInt64 v3) 0 9999).bind fun u5 =>
 bs u5 (fun j6 => some (.inl j6, σ)) fun x4 =>
 (f_X11_checkRange v4 1 1000000000000).bind fun u8 =>
 bs u8 (fun j9 => some (.inl j9, σ)) fun x7 =>
 (f_X4_monthOf v1 v3).bind fun u11 =>
 bs u11 (fun j12 => some (.inl j12, σ)) fun x10 =>
 if x10 < v4 then
 (f_X4_countFor N v1 v3 v4).bind fun u15 =>
 bs u15 (fun j16 => some (.inl j16, σ)) fun x14 =>
 if x14 ≤ 120 then
 (gR σ a0 10 9).bind fun p18 =>
 (isO σ p18 4).bind fun _ =>
 b2 (f_X4_fill N σ p18 v1 v3 v4) fun u22 τ21 =>
 bs u22 (fun j23 => some (.inl j23, τ21)) fun x20 =>
 some (.inr x20, τ21)
 else
 some (.inl 4, σ)
 else
 some (.inl 5, σ)
set_option maxHeartbeats 4000000 in
set_option maxRecDepth 100000 in
theorem c_X11_lend {l : Launch} (hfl : l.stackTraces = false) {g : PP} {N : Nat} {σ : Sto} {sz : Nat} {a0 : Nat} {v1 : Int64} {v3 : Int32} {v4 : Int64} {r9 : Nat ⊕ Int32} {σ9 : Sto} (h : f_X11_lend N σ a0 v1 v3 v4 = some (r9, σ9)) : vx_Met l yX11_lend [Cond.code yX11_lend cX11_lend 6 (some .int)] (rmk 13 (cX r9) (cY r9) 275) (Pre g σ sz [.ref a0, .long v1, .int v3, .long v4]) (PstX g (Sum.map id vI r9) σ9 sz) (XpX g (Sum.map id vI r9) σ9 sz) (cX r9) (cY r9) (Aw g) := by
  refine vx_ofW (cc := cX11_lend) (maxL := 6) (ret := (some .int)) (by decide) rfl ?_
  intro p e s m args below meth c s₁ B hml ht hv
  obtain ⟨rfl, C, hs⟩ := ctx_of B hml hv
  have C : Cx g p s m meth c cX11_lend 6 "Tillhouse" := C
  have hr := B.returns
  have hl := lv_entry ([.ref a0, .long v1, .int v3, .long v4]) (n := 6) (Nat.le_of_ble_eq_true rfl)
  rw [lg_entry_eq]
  generalize (lg_sl ([.ref a0, .long v1, .int v3, .long v4]) ++ List.replicate (6 - (lg_sl ([.ref a0, .long v1, .int v3, .long v4])).length) Slot.unset).toArray = ls at hl ⊢
  have hl : lv_has ls 6 [(0, .ref a0), (1, .long v1), (3, .int v3), (4, .long v4)] := hl
  unfold f_X11_lend at h
  refine lv_lload_n C.1 C.2.1 dX11_lend_0 rfl (lv_at hl 1 rfl) ?_
  refine lv_lconst (v := 1) C.1 C.2.1 dX11_lend_1 (by decide) ?_
  refine lv_ldc2 (v := 1000000000000) C.1 C.2.1 C.2.2.2.1 (C.2.2.2.2.1.1 _ q876 _) dX11_lend_2 ?_
  replace h := ob h; obtain ⟨u2, ex1, h⟩ := h
  rcases u2 with j3 | x1
  · replace h := bsl h
    cases h
    refine sx_xcallS (As := [.long v1, .long 1, .long 1000000000000]) (rest := []) C hs (c_X11_checkRange hfl ex1) mo_X11_checkRange q842 rfl hl.1 ⟨⟨(Nat.le_of_ble_eq_true rfl), (Nat.le_of_ble_eq_true rfl)⟩, (Nat.le_of_ble_eq_true rfl), (Nat.le_of_ble_eq_true rfl)⟩ rfl (Nat.le_of_ble_eq_true rfl) dX11_lend_5 (fun k9 hk9 ce q9 H locs a1 a2 a3 a4 a5 a6 => ?_) (fun vr hv => (inlr hv).elim)
    obtain rfl := Sum.inl.inj hk9
    exact sx_out C ht a1 a2 a3 a4 a5 a6 (Nat.le_of_ble_eq_true rfl) (Nat.le_of_ble_eq_true rfl)
  · replace h := bsr h
    refine sx_xcallS (As := [.long v1, .long 1, .long 1000000000000]) (rest := []) C hs (c_X11_checkRange hfl ex1) mo_X11_checkRange q842 rfl hl.1 ⟨⟨(Nat.le_of_ble_eq_true rfl), (Nat.le_of_ble_eq_true rfl)⟩, (Nat.le_of_ble_eq_true rfl), (Nat.le_of_ble_eq_true rfl)⟩ rfl (Nat.le_of_ble_eq_true rfl) dX11_lend_5 (fun k9 hk9 => (inrl hk9).elim) (fun vr hv H locs hs => ?_)
    obtain rfl := Sum.inr.inj hv
    refine W.eq (g2 := F0 m 8 ls []) rfl ?_
    refine W.widen (k := 0) (n := 0) (Nat.le_of_ble_eq_true rfl) (Nat.le_of_ble_eq_true rfl) ?_
    refine lv_iload_n C.1 C.2.1 dX11_lend_8 rfl (lv_at hl 2 rfl) ?_
    refine lv_i2l (v := Int32.toInt64 v3) C.1 C.2.1 dX11_lend_9 rfl ?_
    refine lv_lconst (v := 0) C.1 C.2.1 dX11_lend_10 (by decide) ?_
    refine lv_ldc2 (v := 9999) C.1 C.2.1 C.2.2.2.1 (C.2.2.2.2.1.1 _ q943 _) dX11_lend_11 ?_
    replace h := ob h; obtain ⟨u5, ex4, h⟩ := h
    rcases u5 with j6 | x4
    · replace h := bsl h
      cases h
      refine sx_xcallS (As := [.long (Int32.toInt64 v3), .long 0, .long 9999]) (rest := []) C hs (c_X11_checkRange hfl ex4) mo_X11_checkRange q842 rfl hl.1 ⟨⟨(Nat.le_of_ble_eq_true rfl), (Nat.le_of_ble_eq_true rfl)⟩, (Nat.le_of_ble_eq_true rfl), (Nat.le_of_ble_eq_true rfl)⟩ rfl (Nat.le_of_ble_eq_true rfl) dX11_lend_14 (fun k9 hk9 ce q9 H locs a1 a2 a3 a4 a5 a6 => ?_) (fun vr hv => (inlr hv).elim)
      obtain rfl := Sum.inl.inj hk9
      exact sx_out C ht a1 a2 a3 a4 a5 a6 (Nat.le_of_ble_eq_true rfl) (Nat.le_of_ble_eq_true rfl)
    · replace h := bsr h
      refine sx_xcallS (As := [.long (Int32.toInt64 v3), .long 0, .long 9999]) (rest := []) C hs (c_X11_checkRange hfl ex4) mo_X11_checkRange q842 rfl hl.1 ⟨⟨(Nat.le_of_ble_eq_true rfl), (Nat.le_of_ble_eq_true rfl)⟩, (Nat.le_of_ble_eq_true rfl), (Nat.le_of_ble_eq_true rfl)⟩ rfl (Nat.le_of_ble_eq_true rfl) dX11_lend_14 (fun k9 hk9 => (inrl hk9).elim) (fun vr hv H locs hs => ?_)
      obtain rfl := Sum.inr.inj hv
      refine W.eq (g2 := F0 m 17 ls []) rfl ?_
      refine W.widen (k := 0) (n := 0) (Nat.le_of_ble_eq_true rfl) (Nat.le_of_ble_eq_true rfl) ?_
      refine lv_lload C.1 C.2.1 dX11_lend_17 (lv_at hl 3 rfl) ?_
      refine lv_lconst (v := 1) C.1 C.2.1 dX11_lend_19 (by decide) ?_
      refine lv_ldc2 (v := 1000000000000) C.1 C.2.1 C.2.2.2.1 (C.2.2.2.2.1.1 _ q876 _) dX11_lend_20 ?_
      replace h := ob h; obtain ⟨u8, ex7, h⟩ := h
      rcases u8 with j9 | x7
      · replace h := bsl h
        cases h
        refine sx_xcallS (As := [.long v4, .long 1, .long 1000000000000]) (rest := []) C hs (c_X11_checkRange hfl ex7) mo_X11_checkRange q842 rfl hl.1 ⟨⟨(Nat.le_of_ble_eq_true rfl), (Nat.le_of_ble_eq_true rfl)⟩, (Nat.le_of_ble_eq_true rfl), (Nat.le_of_ble_eq_true rfl)⟩ rfl (Nat.le_of_ble_eq_true rfl) dX11_lend_23 (fun k9 hk9 ce q9 H locs a1 a2 a3 a4 a5 a6 => ?_) (fun vr hv => (inlr hv).elim)
        obtain rfl := Sum.inl.inj hk9
        exact sx_out C ht a1 a2 a3 a4 a5 a6 (Nat.le_of_ble_eq_true rfl) (Nat.le_of_ble_eq_true rfl)
      · replace h := bsr h
        refine sx_xcallS (As := [.long v4, .long 1, .long 1000000000000]) (rest := []) C hs (c_X11_checkRange hfl ex7) mo_X11_checkRange q842 rfl hl.1 ⟨⟨(Nat.le_of_ble_eq_true rfl), (Nat.le_of_ble_eq_true rfl)⟩, (Nat.le_of_ble_eq_true rfl), (Nat.le_of_ble_eq_true rfl)⟩ rfl (Nat.le_of_ble_eq_true rfl) dX11_lend_23 (fun k9 hk9 => (inrl hk9).elim) (fun vr hv H locs hs => ?_)
        obtain rfl := Sum.inr.inj hv
        refine W.eq (g2 := F0 m 26 ls []) rfl ?_
        refine W.widen (k := 0) (n := 0) (Nat.le_of_ble_eq_true rfl) (Nat.le_of_ble_eq_true rfl) ?_
        refine lv_lload_n C.1 C.2.1 dX11_lend_26 rfl (lv_at hl 1 rfl) ?_
        refine lv_iload_n C.1 C.2.1 dX11_lend_27 rfl (lv_at hl 2 rfl) ?_
        replace h := ob h; obtain ⟨u11, ex10, h⟩ := h
        rcases u11 with j12 | x10
        · replace h := bsl h
          cases h
          refine sx_xcallS (As := [.long v1, .int v3]) (rest := []) C hs (c_X4_monthOf hfl ex10) mo_X4_monthOf q1211 rfl hl.1 ⟨⟨(Nat.le_of_ble_eq_true rfl), (Nat.le_of_ble_eq_true rfl)⟩, (Nat.le_of_ble_eq_true rfl), (Nat.le_of_ble_eq_true rfl)⟩ rfl (Nat.le_of_ble_eq_true rfl) dX11_lend_28 (fun k9 hk9 ce q9 H locs a1 a2 a3 a4 a5 a6 => ?_) (fun vr hv => (inlr hv).elim)
          obtain rfl := Sum.inl.inj hk9
          exact sx_out C ht a1 a2 a3 a4 a5 a6 (Nat.le_of_ble_eq_true rfl) (Nat.le_of_ble_eq_true rfl)
        · replace h := bsr h
          refine sx_xcallS (As := [.long v1, .int v3]) (rest := []) C hs (c_X4_monthOf hfl ex10) mo_X4_monthOf q1211 rfl hl.1 ⟨⟨(Nat.le_of_ble_eq_true rfl), (Nat.le_of_ble_eq_true rfl)⟩, (Nat.le_of_ble_eq_true rfl), (Nat.le_of_ble_eq_true rfl)⟩ rfl (Nat.le_of_ble_eq_true rfl) dX11_lend_28 (fun k9 hk9 => (inrl hk9).elim) (fun vr hv H locs hs => ?_)
          obtain rfl := Sum.inr.inj hv
          refine W.eq (g2 := F0 m 31 ls [.long x10]) rfl ?_
          refine W.widen (k := 0) (n := 0) (Nat.le_of_ble_eq_true rfl) (Nat.le_of_ble_eq_true rfl) ?_
          refine lv_lload C.1 C.2.1 dX11_lend_31 (lv_at hl 3 rfl) ?_
          refine W.lcmp C.1 C.2.1 dX11_lend_33 ?_
          refine lv_if_lt (tgt := 48) C.1 C.2.1 dX11_lend_34 (by decide) (fun c13 => ?_) (fun c13 => ?_)
          · replace h := ip ((lg_cmp_lt _ _).mp c13) h
            refine lv_lload_n C.1 C.2.1 dX11_lend_48 rfl (lv_at hl 1 rfl) ?_
            refine lv_iload_n C.1 C.2.1 dX11_lend_49 rfl (lv_at hl 2 rfl) ?_
            refine lv_lload C.1 C.2.1 dX11_lend_50 (lv_at hl 3 rfl) ?_
            replace h := ob h; obtain ⟨u15, ex14, h⟩ := h
            rcases u15 with j16 | x14
            · replace h := bsl h
              cases h
              refine sx_xcallS (As := [.long v1, .int v3, .long v4]) (rest := []) C hs (c_X4_countFor hfl ex14) mo_X4_countFor q1217 rfl hl.1 ⟨⟨(Nat.le_of_ble_eq_true rfl), (Nat.le_of_ble_eq_true rfl)⟩, (Nat.le_of_ble_eq_true rfl), (Nat.le_of_ble_eq_true rfl)⟩ rfl (Nat.le_of_ble_eq_true rfl) dX11_lend_52 (fun k9 hk9 ce q9 H locs a1 a2 a3 a4 a5 a6 => ?_) (fun vr hv => (inlr hv).elim)
              obtain rfl := Sum.inl.inj hk9
              exact sx_out C ht a1 a2 a3 a4 a5 a6 (Nat.le_of_ble_eq_true rfl) (Nat.le_of_ble_eq_true rfl)
            · replace h := bsr h
              refine sx_xcallS (As := [.long v1, .int v3, .long v4]) (rest := []) C hs (c_X4_countFor hfl ex14) mo_X4_countFor q1217 rfl hl.1 ⟨⟨(Nat.le_of_ble_eq_true rfl), (Nat.le_of_ble_eq_true rfl)⟩, (Nat.le_of_ble_eq_true rfl), (Nat.le_of_ble_eq_true rfl)⟩ rfl (Nat.le_of_ble_eq_true rfl) dX11_lend_52 (fun k9 hk9 => (inrl hk9).elim) (fun vr hv H locs hs => ?_)
              obtain rfl := Sum.inr.inj hv
              refine W.eq (g2 := F0 m 55 ls [.int x14]) rfl ?_
              refine W.widen (k := 0) (n := 0) (Nat.le_of_ble_eq_true rfl) (Nat.le_of_ble_eq_true rfl) ?_
              refine lv_bipush (v := 120) C.1 C.2.1 dX11_lend_55 (by decide) ?_
              refine lv_icmp_le (tgt := 71) C.1 C.2.1 dX11_lend_57 (by decide) (fun c17 => ?_) (fun c17 => ?_)
              · replace h := ip c17 h
                refine lv_aload_n C.1 C.2.1 dX11_lend_71 rfl (lv_at hl 0 rfl) ?_
                replace h := ob h; obtain ⟨p18, ep18, h⟩ := h
                refine sx_getV C hs fo_X11_60 (gR_v ep18) dX11_lend_72 ?_
                refine lv_lload_n C.1 C.2.1 dX11_lend_75 rfl (lv_at hl 1 rfl) ?_
                refine lv_iload_n C.1 C.2.1 dX11_lend_76 rfl (lv_at hl 2 rfl) ?_
                refine lv_lload C.1 C.2.1 dX11_lend_77 (lv_at hl 3 rfl) ?_
                replace h := ob h; obtain ⟨⟨⟩, i19, h⟩ := h
                replace h := ob2 h; obtain ⟨u22, τ21, ex20, h⟩ := h
                rcases u22 with j23 | x20
                · replace h := bsl h
                  cases h
                  refine sx_xcallV (As := [.long v1, .int v3, .long v4]) (rest := []) C hs (c_X4_fill hfl ex20) mo_X4_fill q1228 i19 rfl rfl hl.1 ⟨⟨(Nat.le_of_ble_eq_true rfl), (Nat.le_of_ble_eq_true rfl)⟩, (Nat.le_of_ble_eq_true rfl), (Nat.le_of_ble_eq_true rfl)⟩ rfl (Nat.le_of_ble_eq_true rfl) dX11_lend_79 (fun k9 hk9 ce q9 H locs a1 a2 a3 a4 a5 a6 => ?_) (fun vr hv => (inlr hv).elim)
                  obtain rfl := Sum.inl.inj hk9
                  exact sx_out C ht a1 a2 a3 a4 a5 a6 (Nat.le_of_ble_eq_true rfl) (Nat.le_of_ble_eq_true rfl)
                · replace h := bsr h
                  refine sx_xcallV (As := [.long v1, .int v3, .long v4]) (rest := []) C hs (c_X4_fill hfl ex20) mo_X4_fill q1228 i19 rfl rfl hl.1 ⟨⟨(Nat.le_of_ble_eq_true rfl), (Nat.le_of_ble_eq_true rfl)⟩, (Nat.le_of_ble_eq_true rfl), (Nat.le_of_ble_eq_true rfl)⟩ rfl (Nat.le_of_ble_eq_true rfl) dX11_lend_79 (fun k9 hk9 => (inrl hk9).elim) (fun vr hv H locs hs => ?_)
                  obtain rfl := Sum.inr.inj hv
                  refine W.eq (g2 := F0 m 82 ls [.int x20]) rfl ?_
                  refine W.widen (k := 0) (n := 0) (Nat.le_of_ble_eq_true rfl) (Nat.le_of_ble_eq_true rfl) ?_
                  cases h
                  exact sx_iretX C hs hr rfl dX11_lend_82
              · replace h := iN c17 h
                cases h
                exact sx_throwW C hfl hs to_X11_99_398 ht hl.1 dX11_lend_60 dX11_lend_63 dX11_lend_64 dX11_lend_67 dX11_lend_70 ⟨by decide, (Nat.le_of_ble_eq_true rfl), (Nat.le_of_ble_eq_true rfl), (Nat.le_of_ble_eq_true rfl)⟩ ⟨(Nat.le_of_ble_eq_true rfl), (Nat.le_of_ble_eq_true rfl)⟩
          · replace h := iN (fun q => c13 ((lg_cmp_lt _ _).mpr q)) h
            cases h
            exact sx_throwW C hfl hs to_X11_312_392 ht hl.1 dX11_lend_37 dX11_lend_40 dX11_lend_41 dX11_lend_44 dX11_lend_47 ⟨by decide, (Nat.le_of_ble_eq_true rfl), (Nat.le_of_ble_eq_true rfl), (Nat.le_of_ble_eq_true rfl)⟩ ⟨(Nat.le_of_ble_eq_true rfl), (Nat.le_of_ble_eq_true rfl)⟩
def b_X11_instalment_35 (σ : Sto) (a0 : Nat) (v1 : Int32) (v2 : Int32) : Option ((Nat ⊕ Int64)) :=
 if v1 < 0 then
 some (.inl 2)
 else
 (gR σ a0 10 9).bind fun p2 =>
 (gI σ p2 4 3).bind fun x3 =>
 if v1 < x3 then
 if v2 = 105 then
 (gR σ a0 10 9).bind fun p6 =>
 (gR σ p6 4 0).bind fun p7 =>
 (aL σ p7 2 v1).bind fun x8 =>
 some (.inr x8)
 else
 if v2 = 111 then
 (gR σ a0 10 9).bind fun p10 =>
 (gR σ p10 4 2).bind fun p11 =>
 (aL σ p11 2 v1).bind fun x12 =>
 some (.inr x12)
 else
 if v2 = 112 then
 (gR σ a0 10 9).bind fun p14 =>
 (gR σ p14 4 1).bind fun p15 =>
 (aL σ p15 2 v1).bind fun x16 =>
 some (.inr x16)
 else
 (gR σ a0 10 9).bind fun p17 =>
 (gR σ p17 4 0).bind fun p18 =>
 (aL σ p18 2 v1).bind fun x19 =>
 (gR σ a0 10 9).bind fun p20 =>
 (gR σ p20 4 1).bind fun p21 =>
 (aL σ p21 2 v1).bind fun x22 =>
 some (.inr (x19 + x22))
 else
 some (.inl 2)
def f_X11_instalment (σ : Sto) (a0 : Nat) (v1 : Int32) (v2 : Int32) : Option ((Nat ⊕ Int64)) :=
 if v2 = 105 then
 b_X11_instalment_35 σ a0 v1 v2
 else
 if v2 = 112 then
 b_X11_instalment_35 σ a0 v1 v2
 else
 if v2 = 111 then
 b_X11_instalment_35 σ a0 v1 v2
 else
 if v2 = 115 then
 b_X11_instalment_35 σ a0 v1 v2
 else
 some (.inl 1)
set_option maxHeartbeats 4000000 in
set_option maxRecDepth 100000 in
theorem t_X11_instalment_35 {l : Launch} {g : PP} {p : Program} {e : Env} {s : State} {m : MethodId} {args : Array Value} {below : List Frame} {meth : Method} {c : Code} (hfl : l.stackTraces = false) (C : Cx g p s m meth c cX11_instalment 3 "Tillhouse") (hr : meth.sig.returnType = some .long) (ht : ∀ x ∈ c.exceptionTable.toList, False)   {σ : Sto} {sz : Nat} {a0 : Nat} {v1 : Int32} {v2 : Int32} {r9 : Nat ⊕ Int64}
    (h : b_X11_instalment_35 σ a0 v1 v2 = some r9) 
    {H : Heap} {locs : List Loc} {ls : Array Slot} (hs : HS g s σ sz H locs) (hl : lv_has ls 3 [(0, .ref a0), (1, .int v1), (2, .int v2)]) : W p l e (rmk 6 (cX r9) (cY r9) 100) s m args below meth c H locs 0 0 (vx_MQ below (PstX g (Sum.map id vL r9) σ sz) (XpX g (Sum.map id vL r9) σ sz) args s (cX r9) (cY r9) (Aw g)) (F0 m 35 ls []) := by
  unfold b_X11_instalment_35 at h
  refine lv_iload_n C.1 C.2.1 dX11_instalment_35 rfl (lv_at hl 1 rfl) ?_
  refine lv_if_lt (tgt := 50) C.1 C.2.1 dX11_instalment_36 (by decide) (fun c1 => ?_) (fun c1 => ?_)
  · replace h := ip c1 h
    cases h
    exact sx_throwNW C hfl hs to_X11_210_408 ht hl.1 dX11_instalment_50 dX11_instalment_53 dX11_instalment_54 dX11_instalment_57 dX11_instalment_60 ⟨by decide, (Nat.le_of_ble_eq_true rfl), (Nat.le_of_ble_eq_true rfl), (Nat.le_of_ble_eq_true rfl)⟩ ⟨(Nat.le_of_ble_eq_true rfl), (Nat.le_of_ble_eq_true rfl)⟩
  · replace h := iN c1 h
    refine lv_iload_n C.1 C.2.1 dX11_instalment_39 rfl (lv_at hl 1 rfl) ?_
    refine lv_aload_n C.1 C.2.1 dX11_instalment_40 rfl (lv_at hl 0 rfl) ?_
    replace h := ob h; obtain ⟨p2, ep2, h⟩ := h
    refine sx_getV C hs fo_X11_60 (gR_v ep2) dX11_instalment_41 ?_
    replace h := ob h; obtain ⟨x3, ex3, h⟩ := h
    refine sx_getV C hs fo_X11_405 (gI_v ex3) dX11_instalment_44 ?_
    refine lv_icmp_lt (tgt := 61) C.1 C.2.1 dX11_instalment_47 (by decide) (fun c4 => ?_) (fun c4 => ?_)
    · replace h := ip c4 h
      refine lv_iload_n C.1 C.2.1 dX11_instalment_61 rfl (lv_at hl 2 rfl) ?_
      rcases Decidable.em (v2 = 105) with c5 | c5
      · replace h := ip c5 h
        refine sx_lkp (tgt := 96) (off := 34) C dX11_instalment_62 (by decide) (by rw [c5]; decide) (by decide) ?_
        refine lv_aload_n C.1 C.2.1 dX11_instalment_96 rfl (lv_at hl 0 rfl) ?_
        replace h := ob h; obtain ⟨p6, ep6, h⟩ := h
        refine sx_getV C hs fo_X11_60 (gR_v ep6) dX11_instalment_97 ?_
        replace h := ob h; obtain ⟨p7, ep7, h⟩ := h
        refine sx_getV C hs fo_X11_410 (gR_v ep7) dX11_instalment_100 ?_
        refine lv_iload_n C.1 C.2.1 dX11_instalment_103 rfl (lv_at hl 1 rfl) ?_
        replace h := ob h; obtain ⟨x8, ex8, h⟩ := h
        refine sx_lald C hs ex8 dX11_instalment_104 ?_
        cases h
        exact sx_lretX C hs hr dX11_instalment_105
      · replace h := iN c5 h
        rcases Decidable.em (v2 = 111) with c9 | c9
        · replace h := ip c9 h
          refine sx_lkp (tgt := 116) (off := 54) C dX11_instalment_62 (by decide) (by rw [c9]; decide) (by decide) ?_
          refine lv_aload_n C.1 C.2.1 dX11_instalment_116 rfl (lv_at hl 0 rfl) ?_
          replace h := ob h; obtain ⟨p10, ep10, h⟩ := h
          refine sx_getV C hs fo_X11_60 (gR_v ep10) dX11_instalment_117 ?_
          replace h := ob h; obtain ⟨p11, ep11, h⟩ := h
          refine sx_getV C hs fo_X11_416 (gR_v ep11) dX11_instalment_120 ?_
          refine lv_iload_n C.1 C.2.1 dX11_instalment_123 rfl (lv_at hl 1 rfl) ?_
          replace h := ob h; obtain ⟨x12, ex12, h⟩ := h
          refine sx_lald C hs ex12 dX11_instalment_124 ?_
          cases h
          exact sx_lretX C hs hr dX11_instalment_125
        · replace h := iN c9 h
          rcases Decidable.em (v2 = 112) with c13 | c13
          · replace h := ip c13 h
            refine sx_lkp (tgt := 106) (off := 44) C dX11_instalment_62 (by decide) (by rw [c13]; decide) (by decide) ?_
            refine lv_aload_n C.1 C.2.1 dX11_instalment_106 rfl (lv_at hl 0 rfl) ?_
            replace h := ob h; obtain ⟨p14, ep14, h⟩ := h
            refine sx_getV C hs fo_X11_60 (gR_v ep14) dX11_instalment_107 ?_
            replace h := ob h; obtain ⟨p15, ep15, h⟩ := h
            refine sx_getV C hs fo_X11_413 (gR_v ep15) dX11_instalment_110 ?_
            refine lv_iload_n C.1 C.2.1 dX11_instalment_113 rfl (lv_at hl 1 rfl) ?_
            replace h := ob h; obtain ⟨x16, ex16, h⟩ := h
            refine sx_lald C hs ex16 dX11_instalment_114 ?_
            cases h
            exact sx_lretX C hs hr dX11_instalment_115
          · replace h := iN c13 h
            refine sx_lkp (tgt := 126) (off := 64) C dX11_instalment_62 (by decide) ((lv_osw c5 (by decide)).trans ((lv_osw c9 (by decide)).trans ((lv_osw c13 (by decide)).trans rfl))) (by decide) ?_
            refine lv_aload_n C.1 C.2.1 dX11_instalment_126 rfl (lv_at hl 0 rfl) ?_
            replace h := ob h; obtain ⟨p17, ep17, h⟩ := h
            refine sx_getV C hs fo_X11_60 (gR_v ep17) dX11_instalment_127 ?_
            replace h := ob h; obtain ⟨p18, ep18, h⟩ := h
            refine sx_getV C hs fo_X11_410 (gR_v ep18) dX11_instalment_130 ?_
            refine lv_iload_n C.1 C.2.1 dX11_instalment_133 rfl (lv_at hl 1 rfl) ?_
            replace h := ob h; obtain ⟨x19, ex19, h⟩ := h
            refine sx_lald C hs ex19 dX11_instalment_134 ?_
            refine lv_aload_n C.1 C.2.1 dX11_instalment_135 rfl (lv_at hl 0 rfl) ?_
            replace h := ob h; obtain ⟨p20, ep20, h⟩ := h
            refine sx_getV C hs fo_X11_60 (gR_v ep20) dX11_instalment_136 ?_
            replace h := ob h; obtain ⟨p21, ep21, h⟩ := h
            refine sx_getV C hs fo_X11_413 (gR_v ep21) dX11_instalment_139 ?_
            refine lv_iload_n C.1 C.2.1 dX11_instalment_142 rfl (lv_at hl 1 rfl) ?_
            replace h := ob h; obtain ⟨x22, ex22, h⟩ := h
            refine sx_lald C hs ex22 dX11_instalment_143 ?_
            refine lv_ladd C.1 C.2.1 dX11_instalment_144 ?_
            cases h
            exact sx_lretX C hs hr dX11_instalment_145
    · replace h := iN c4 h
      cases h
      exact sx_throwNW C hfl hs to_X11_210_408 ht hl.1 dX11_instalment_50 dX11_instalment_53 dX11_instalment_54 dX11_instalment_57 dX11_instalment_60 ⟨by decide, (Nat.le_of_ble_eq_true rfl), (Nat.le_of_ble_eq_true rfl), (Nat.le_of_ble_eq_true rfl)⟩ ⟨(Nat.le_of_ble_eq_true rfl), (Nat.le_of_ble_eq_true rfl)⟩
set_option maxHeartbeats 4000000 in
set_option maxRecDepth 100000 in
theorem c_X11_instalment {l : Launch} (hfl : l.stackTraces = false) {g : PP} {σ : Sto} {sz : Nat} {a0 : Nat} {v1 : Int32} {v2 : Int32} {r9 : Nat ⊕ Int64} (h : f_X11_instalment σ a0 v1 v2 = some r9) : vx_Met l yX11_instalment [Cond.code yX11_instalment cX11_instalment 3 (some .long)] (rmk 6 (cX r9) (cY r9) 100) (Pre g σ sz [.ref a0, .int v1, .int v2]) (PstX g (Sum.map id vL r9) σ sz) (XpX g (Sum.map id vL r9) σ sz) (cX r9) (cY r9) (Aw g) := by
  refine vx_ofW (cc := cX11_instalment) (maxL := 3) (ret := (some .long)) (by decide) rfl ?_
  intro p e s m args below meth c s₁ B hml ht hv
  obtain ⟨rfl, C, hs⟩ := ctx_of B hml hv
  have C : Cx g p s m meth c cX11_instalment 3 "Tillhouse" := C
  have hr := B.returns
  have hl := lv_entry ([.ref a0, .int v1, .int v2]) (n := 3) (Nat.le_of_ble_eq_true rfl)
  rw [lg_entry_eq]
  generalize (lg_sl ([.ref a0, .int v1, .int v2]) ++ List.replicate (3 - (lg_sl ([.ref a0, .int v1, .int v2])).length) Slot.unset).toArray = ls at hl ⊢
  have hl : lv_has ls 3 [(0, .ref a0), (1, .int v1), (2, .int v2)] := hl
  unfold f_X11_instalment at h
  refine lv_iload_n C.1 C.2.1 dX11_instalment_0 rfl (lv_at hl 2 rfl) ?_
  refine lv_bipush (v := 105) C.1 C.2.1 dX11_instalment_1 (by decide) ?_
  refine lv_icmp_eq (tgt := 35) C.1 C.2.1 dX11_instalment_3 (by decide) (fun c1 => ?_) (fun c1 => ?_)
  · replace h := ip c1 h
    exact t_X11_instalment_35 hfl C hr ht h hs (lv_sub hl [0, 1, 2] rfl)
  · replace h := iN c1 h
    refine lv_iload_n C.1 C.2.1 dX11_instalment_6 rfl (lv_at hl 2 rfl) ?_
    refine lv_bipush (v := 112) C.1 C.2.1 dX11_instalment_7 (by decide) ?_
    refine lv_icmp_eq (tgt := 35) C.1 C.2.1 dX11_instalment_9 (by decide) (fun c2 => ?_) (fun c2 => ?_)
    · replace h := ip c2 h
      exact t_X11_instalment_35 hfl C hr ht h hs (lv_sub hl [0, 1, 2] rfl)
    · replace h := iN c2 h
      refine lv_iload_n C.1 C.2.1 dX11_instalment_12 rfl (lv_at hl 2 rfl) ?_
      refine lv_bipush (v := 111) C.1 C.2.1 dX11_instalment_13 (by decide) ?_
      refine lv_icmp_eq (tgt := 35) C.1 C.2.1 dX11_instalment_15 (by decide) (fun c3 => ?_) (fun c3 => ?_)
      · replace h := ip c3 h
        exact t_X11_instalment_35 hfl C hr ht h hs (lv_sub hl [0, 1, 2] rfl)
      · replace h := iN c3 h
        refine lv_iload_n C.1 C.2.1 dX11_instalment_18 rfl (lv_at hl 2 rfl) ?_
        refine lv_bipush (v := 115) C.1 C.2.1 dX11_instalment_19 (by decide) ?_
        refine lv_icmp_eq (tgt := 35) C.1 C.2.1 dX11_instalment_21 (by decide) (fun c4 => ?_) (fun c4 => ?_)
        · replace h := ip c4 h
          exact t_X11_instalment_35 hfl C hr ht h hs (lv_sub hl [0, 1, 2] rfl)
        · replace h := iN c4 h
          cases h
          exact sx_throwW C hfl hs to_X11_81_403 ht hl.1 dX11_instalment_24 dX11_instalment_27 dX11_instalment_28 dX11_instalment_31 dX11_instalment_34 ⟨by decide, (Nat.le_of_ble_eq_true rfl), (Nat.le_of_ble_eq_true rfl), (Nat.le_of_ble_eq_true rfl)⟩ ⟨(Nat.le_of_ble_eq_true rfl), (Nat.le_of_ble_eq_true rfl)⟩
def f_X11_checkAccount (v0 : Int32) : Option ((Nat ⊕ Unit)) :=
 if v0 < 0 then
 some (.inl 0)
 else
 if v0 < 100 then
 some (.inr ())
 else
 some (.inl 0)
set_option maxHeartbeats 4000000 in
set_option maxRecDepth 100000 in
theorem c_X11_checkAccount {l : Launch} (hfl : l.stackTraces = false) {g : PP} {σ : Sto} {sz : Nat} {v0 : Int32} {r9 : Nat ⊕ Unit} (h : f_X11_checkAccount v0 = some r9) : vx_Met l yX11_checkAccount [Cond.code yX11_checkAccount cX11_checkAccount 1 none] (rmk 6 (cX r9) (cY r9) 100) (Pre g σ sz [.int v0]) (PstX g (Sum.map id vV r9) σ sz) (XpX g (Sum.map id vV r9) σ sz) (cX r9) (cY r9) (Aw g) := by
  refine vx_ofW (cc := cX11_checkAccount) (maxL := 1) (ret := none) (by decide) rfl ?_
  intro p e s m args below meth c s₁ B hml ht hv
  obtain ⟨rfl, C, hs⟩ := ctx_of B hml hv
  have C : Cx g p s m meth c cX11_checkAccount 1 "Tillhouse" := C
  have hr := B.returns
  have hl := lv_entry ([.int v0]) (n := 1) (Nat.le_of_ble_eq_true rfl)
  rw [lg_entry_eq]
  generalize (lg_sl ([.int v0]) ++ List.replicate (1 - (lg_sl ([.int v0])).length) Slot.unset).toArray = ls at hl ⊢
  have hl : lv_has ls 1 [(0, .int v0)] := hl
  unfold f_X11_checkAccount at h
  refine lv_iload_n C.1 C.2.1 dX11_checkAccount_0 rfl (lv_at hl 0 rfl) ?_
  refine lv_if_lt (tgt := 10) C.1 C.2.1 dX11_checkAccount_1 (by decide) (fun c1 => ?_) (fun c1 => ?_)
  · replace h := ip c1 h
    cases h
    exact sx_throwW C hfl hs to_X11_195_451 ht hl.1 dX11_checkAccount_10 dX11_checkAccount_13 dX11_checkAccount_14 dX11_checkAccount_17 dX11_checkAccount_20 ⟨by decide, (Nat.le_of_ble_eq_true rfl), (Nat.le_of_ble_eq_true rfl), (Nat.le_of_ble_eq_true rfl)⟩ ⟨(Nat.le_of_ble_eq_true rfl), (Nat.le_of_ble_eq_true rfl)⟩
  · replace h := iN c1 h
    refine lv_iload_n C.1 C.2.1 dX11_checkAccount_4 rfl (lv_at hl 0 rfl) ?_
    refine lv_bipush (v := 100) C.1 C.2.1 dX11_checkAccount_5 (by decide) ?_
    refine lv_icmp_lt (tgt := 21) C.1 C.2.1 dX11_checkAccount_7 (by decide) (fun c2 => ?_) (fun c2 => ?_)
    · replace h := ip c2 h
      cases h
      exact sx_vretX C hs hr dX11_checkAccount_21
    · replace h := iN c2 h
      cases h
      exact sx_throwW C hfl hs to_X11_195_451 ht hl.1 dX11_checkAccount_10 dX11_checkAccount_13 dX11_checkAccount_14 dX11_checkAccount_17 dX11_checkAccount_20 ⟨by decide, (Nat.le_of_ble_eq_true rfl), (Nat.le_of_ble_eq_true rfl), (Nat.le_of_ble_eq_true rfl)⟩ ⟨(Nat.le_of_ble_eq_true rfl), (Nat.le_of_ble_eq_true rfl)⟩
def f_X11_checkNotShut (σ : Sto) (a0 : Nat) (v1 : Int32) : Option ((Nat ⊕ Unit)) :=
 (gR σ a0 10 10).bind fun p1 =>
 (isO σ p1 3).bind fun _ =>
 (f_X3_isShut σ p1 v1).bind fun x3 =>
 if x3 = 0 then
 some (.inr ())
 else
 some (.inl 5)
set_option maxHeartbeats 4000000 in
set_option maxRecDepth 100000 in
theorem c_X11_checkNotShut {l : Launch} (hfl : l.stackTraces = false) {g : PP} {σ : Sto} {sz : Nat} {a0 : Nat} {v1 : Int32} {r9 : Nat ⊕ Unit} (h : f_X11_checkNotShut σ a0 v1 = some r9) : vx_Met l yX11_checkNotShut [Cond.code yX11_checkNotShut cX11_checkNotShut 2 none] (rmk 6 (cX r9) (cY r9) 100) (Pre g σ sz [.ref a0, .int v1]) (PstX g (Sum.map id vV r9) σ sz) (XpX g (Sum.map id vV r9) σ sz) (cX r9) (cY r9) (Aw g) := by
  refine vx_ofW (cc := cX11_checkNotShut) (maxL := 2) (ret := none) (by decide) rfl ?_
  intro p e s m args below meth c s₁ B hml ht hv
  obtain ⟨rfl, C, hs⟩ := ctx_of B hml hv
  have C : Cx g p s m meth c cX11_checkNotShut 2 "Tillhouse" := C
  have hr := B.returns
  have hl := lv_entry ([.ref a0, .int v1]) (n := 2) (Nat.le_of_ble_eq_true rfl)
  rw [lg_entry_eq]
  generalize (lg_sl ([.ref a0, .int v1]) ++ List.replicate (2 - (lg_sl ([.ref a0, .int v1])).length) Slot.unset).toArray = ls at hl ⊢
  have hl : lv_has ls 2 [(0, .ref a0), (1, .int v1)] := hl
  unfold f_X11_checkNotShut at h
  refine lv_aload_n C.1 C.2.1 dX11_checkNotShut_0 rfl (lv_at hl 0 rfl) ?_
  replace h := ob h; obtain ⟨p1, ep1, h⟩ := h
  refine sx_getV C hs fo_X11_67 (gR_v ep1) dX11_checkNotShut_1 ?_
  refine lv_iload_n C.1 C.2.1 dX11_checkNotShut_4 rfl (lv_at hl 1 rfl) ?_
  replace h := ob h; obtain ⟨⟨⟩, i2, h⟩ := h
  replace h := ob h; obtain ⟨x3, ex3, h⟩ := h
  refine sx_callV (As := [.int v1]) (rest := []) C hs (c_X3_isShut ex3) mo_X3_isShut q1256 i2 rfl rfl hl.1 ⟨⟨(Nat.le_of_ble_eq_true rfl), (Nat.le_of_ble_eq_true rfl)⟩, (Nat.le_of_ble_eq_true rfl), (Nat.le_of_ble_eq_true rfl)⟩ rfl (Nat.le_of_ble_eq_true rfl) dX11_checkNotShut_5 (fun H locs hs => ?_)
  refine W.eq (g2 := F0 m 8 ls [.int x3]) rfl ?_
  refine lv_if_eq (tgt := 22) C.1 C.2.1 dX11_checkNotShut_8 (by decide) (fun c4 => ?_) (fun c4 => ?_)
  · replace h := ip c4 h
    cases h
    exact sx_vretX C hs hr dX11_checkNotShut_22
  · replace h := iN c4 h
    cases h
    exact sx_throwW C hfl hs to_X11_312_479 ht hl.1 dX11_checkNotShut_11 dX11_checkNotShut_14 dX11_checkNotShut_15 dX11_checkNotShut_18 dX11_checkNotShut_21 ⟨by decide, (Nat.le_of_ble_eq_true rfl), (Nat.le_of_ble_eq_true rfl), (Nat.le_of_ble_eq_true rfl)⟩ ⟨(Nat.le_of_ble_eq_true rfl), (Nat.le_of_ble_eq_true rfl)⟩
def f_X11_checkRoom (σ : Sto) (a0 : Nat) (v1 : Int32) : Option ((Nat ⊕ Unit)) :=
 (gR σ a0 10 10).bind fun p1 =>
 (isO σ p1 3).bind fun _ =>
 (f_X3_hasRoom σ p1 v1).bind fun x3 =>
 if x3 = 0 then
 some (.inl 4)
 else
 some (.inr ())
set_option maxHeartbeats 4000000 in
set_option maxRecDepth 100000 in
theorem c_X11_checkRoom {l : Launch} (hfl : l.stackTraces = false) {g : PP} {σ : Sto} {sz : Nat} {a0 : Nat} {v1 : Int32} {r9 : Nat ⊕ Unit} (h : f_X11_checkRoom σ a0 v1 = some r9) : vx_Met l yX11_checkRoom [Cond.code yX11_checkRoom cX11_checkRoom 2 none] (rmk 6 (cX r9) (cY r9) 100) (Pre g σ sz [.ref a0, .int v1]) (PstX g (Sum.map id vV r9) σ sz) (XpX g (Sum.map id vV r9) σ sz) (cX r9) (cY r9) (Aw g) := by
  refine vx_ofW (cc := cX11_checkRoom) (maxL := 2) (ret := none) (by decide) rfl ?_
  intro p e s m args below meth c s₁ B hml ht hv
  obtain ⟨rfl, C, hs⟩ := ctx_of B hml hv
  have C : Cx g p s m meth c cX11_checkRoom 2 "Tillhouse" := C
  have hr := B.returns
  have hl := lv_entry ([.ref a0, .int v1]) (n := 2) (Nat.le_of_ble_eq_true rfl)
  rw [lg_entry_eq]
  generalize (lg_sl ([.ref a0, .int v1]) ++ List.replicate (2 - (lg_sl ([.ref a0, .int v1])).length) Slot.unset).toArray = ls at hl ⊢
  have hl : lv_has ls 2 [(0, .ref a0), (1, .int v1)] := hl
  unfold f_X11_checkRoom at h
  refine lv_aload_n C.1 C.2.1 dX11_checkRoom_0 rfl (lv_at hl 0 rfl) ?_
  replace h := ob h; obtain ⟨p1, ep1, h⟩ := h
  refine sx_getV C hs fo_X11_67 (gR_v ep1) dX11_checkRoom_1 ?_
  refine lv_iload_n C.1 C.2.1 dX11_checkRoom_4 rfl (lv_at hl 1 rfl) ?_
  replace h := ob h; obtain ⟨⟨⟩, i2, h⟩ := h
  replace h := ob h; obtain ⟨x3, ex3, h⟩ := h
  refine sx_callV (As := [.int v1]) (rest := []) C hs (c_X3_hasRoom ex3) mo_X3_hasRoom q1265 i2 rfl rfl hl.1 ⟨⟨(Nat.le_of_ble_eq_true rfl), (Nat.le_of_ble_eq_true rfl)⟩, (Nat.le_of_ble_eq_true rfl), (Nat.le_of_ble_eq_true rfl)⟩ rfl (Nat.le_of_ble_eq_true rfl) dX11_checkRoom_5 (fun H locs hs => ?_)
  refine W.eq (g2 := F0 m 8 ls [.int x3]) rfl ?_
  refine lv_if_ne (tgt := 22) C.1 C.2.1 dX11_checkRoom_8 (by decide) (fun c4 => ?_) (fun c4 => ?_)
  · replace h := iN c4 h
    cases h
    exact sx_vretX C hs hr dX11_checkRoom_22
  · replace h := ip c4 h
    cases h
    exact sx_throwW C hfl hs to_X11_99_484 ht hl.1 dX11_checkRoom_11 dX11_checkRoom_14 dX11_checkRoom_15 dX11_checkRoom_18 dX11_checkRoom_21 ⟨by decide, (Nat.le_of_ble_eq_true rfl), (Nat.le_of_ble_eq_true rfl), (Nat.le_of_ble_eq_true rfl)⟩ ⟨(Nat.le_of_ble_eq_true rfl), (Nat.le_of_ble_eq_true rfl)⟩
def f_X11_post (σ : Sto) (a0 : Nat) (v1 : Int32) (v2 : Int32) (v3 : Int32) (v4 : Int64) : Option ((Nat ⊕ Int32) × Sto) :=
 (f_X11_checkAccount v2).bind fun u2 =>
 bs u2 (fun j3 => some (.inl j3, σ)) fun x1 =>
 (f_X11_checkAccount v3).bind fun u5 =>
 bs u5 (fun j6 => some (.inl j6, σ)) fun x4 =>
 (f_X11_checkRange (Int32.toInt64 v1) 0 9999).bind fun u8 =>
 bs u8 (fun j9 => some (.inl j9, σ)) fun x7 =>
 (f_X11_checkRange v4 1 1000000000000).bind fun u11 =>
 bs u11 (fun j12 => some (.inl j12, σ)) fun x10 =>
 (f_X11_checkUnlike v2 v3).bind fun u14 =>
 bs u14 (fun j15 => some (.inl j15, σ)) fun x13 =>
 (isO σ a0 10).bind fun _ =>
 (f_X11_checkNotShut σ a0 v1).bind fun u18 =>
 bs u18 (fun j19 => some (.inl j19, σ)) fun x17 =>
 (f_X11_checkRoom σ a0 1).bind fun u21 =>
 bs u21 (fun j22 => some (.inl j22, σ)) fun x20 =>
 (gR σ a0 10 10).bind fun p23 =>
 (isO σ p23 3).bind fun _ =>
 b2 (f_X3_begin σ p23 v1 (-1)) fun x25 τ26 =>
 (gR τ26 a0 10 10).bind fun p27 =>
 (isO τ26 p27 3).bind fun _ =>
 b2 (f_X3_enter τ26 p27 v2 v3 v4) fun x29 τ30 =>
 some (.inr x29, τ30)
set_option maxHeartbeats 4000000 in
set_option maxRecDepth 100000 in
theorem c_X11_post {l : Launch} (hfl : l.stackTraces = false) {g : PP} {σ : Sto} {sz : Nat} {a0 : Nat} {v1 : Int32} {v2 : Int32} {v3 : Int32} {v4 : Int64} {r9 : Nat ⊕ Int32} {σ9 : Sto} (h : f_X11_post σ a0 v1 v2 v3 v4 = some (r9, σ9)) : vx_Met l yX11_post [Cond.code yX11_post cX11_post 6 (some .int)] (rmk 7 (cX r9) (cY r9) 125) (Pre g σ sz [.ref a0, .int v1, .int v2, .int v3, .long v4]) (PstX g (Sum.map id vI r9) σ9 sz) (XpX g (Sum.map id vI r9) σ9 sz) (cX r9) (cY r9) (Aw g) := by
  refine vx_ofW (cc := cX11_post) (maxL := 6) (ret := (some .int)) (by decide) rfl ?_
  intro p e s m args below meth c s₁ B hml ht hv
  obtain ⟨rfl, C, hs⟩ := ctx_of B hml hv
  have C : Cx g p s m meth c cX11_post 6 "Tillhouse" := C
  have hr := B.returns
  have hl := lv_entry ([.ref a0, .int v1, .int v2, .int v3, .long v4]) (n := 6) (Nat.le_of_ble_eq_true rfl)
  rw [lg_entry_eq]
  generalize (lg_sl ([.ref a0, .int v1, .int v2, .int v3, .long v4]) ++ List.replicate (6 - (lg_sl ([.ref a0, .int v1, .int v2, .int v3, .long v4])).length) Slot.unset).toArray = ls at hl ⊢
  have hl : lv_has ls 6 [(0, .ref a0), (1, .int v1), (2, .int v2), (3, .int v3), (4, .long v4)] := hl
  unfold f_X11_post at h
  refine lv_iload_n C.1 C.2.1 dX11_post_0 rfl (lv_at hl 2 rfl) ?_
  replace h := ob h; obtain ⟨u2, ex1, h⟩ := h
  rcases u2 with j3 | x1
  · replace h := bsl h
    cases h
    refine sx_xcallS (As := [.int v2]) (rest := []) C hs (c_X11_checkAccount hfl ex1) mo_X11_checkAccount q1248 rfl hl.1 ⟨⟨(Nat.le_of_ble_eq_true rfl), (Nat.le_of_ble_eq_true rfl)⟩, (Nat.le_of_ble_eq_true rfl), (Nat.le_of_ble_eq_true rfl)⟩ rfl (Nat.le_of_ble_eq_true rfl) dX11_post_1 (fun k9 hk9 ce q9 H locs a1 a2 a3 a4 a5 a6 => ?_) (fun vr hv => (inlr hv).elim)
    obtain rfl := Sum.inl.inj hk9
    exact sx_out C ht a1 a2 a3 a4 a5 a6 (Nat.le_of_ble_eq_true rfl) (Nat.le_of_ble_eq_true rfl)
  · replace h := bsr h
    refine sx_xcallS (As := [.int v2]) (rest := []) C hs (c_X11_checkAccount hfl ex1) mo_X11_checkAccount q1248 rfl hl.1 ⟨⟨(Nat.le_of_ble_eq_true rfl), (Nat.le_of_ble_eq_true rfl)⟩, (Nat.le_of_ble_eq_true rfl), (Nat.le_of_ble_eq_true rfl)⟩ rfl (Nat.le_of_ble_eq_true rfl) dX11_post_1 (fun k9 hk9 => (inrl hk9).elim) (fun vr hv H locs hs => ?_)
    obtain rfl := Sum.inr.inj hv
    refine W.eq (g2 := F0 m 4 ls []) rfl ?_
    refine W.widen (k := 0) (n := 0) (Nat.le_of_ble_eq_true rfl) (Nat.le_of_ble_eq_true rfl) ?_
    refine lv_iload_n C.1 C.2.1 dX11_post_4 rfl (lv_at hl 3 rfl) ?_
    replace h := ob h; obtain ⟨u5, ex4, h⟩ := h
    rcases u5 with j6 | x4
    · replace h := bsl h
      cases h
      refine sx_xcallS (As := [.int v3]) (rest := []) C hs (c_X11_checkAccount hfl ex4) mo_X11_checkAccount q1248 rfl hl.1 ⟨⟨(Nat.le_of_ble_eq_true rfl), (Nat.le_of_ble_eq_true rfl)⟩, (Nat.le_of_ble_eq_true rfl), (Nat.le_of_ble_eq_true rfl)⟩ rfl (Nat.le_of_ble_eq_true rfl) dX11_post_5 (fun k9 hk9 ce q9 H locs a1 a2 a3 a4 a5 a6 => ?_) (fun vr hv => (inlr hv).elim)
      obtain rfl := Sum.inl.inj hk9
      exact sx_out C ht a1 a2 a3 a4 a5 a6 (Nat.le_of_ble_eq_true rfl) (Nat.le_of_ble_eq_true rfl)
    · replace h := bsr h
      refine sx_xcallS (As := [.int v3]) (rest := []) C hs (c_X11_checkAccount hfl ex4) mo_X11_checkAccount q1248 rfl hl.1 ⟨⟨(Nat.le_of_ble_eq_true rfl), (Nat.le_of_ble_eq_true rfl)⟩, (Nat.le_of_ble_eq_true rfl), (Nat.le_of_ble_eq_true rfl)⟩ rfl (Nat.le_of_ble_eq_true rfl) dX11_post_5 (fun k9 hk9 => (inrl hk9).elim) (fun vr hv H locs hs => ?_)
      obtain rfl := Sum.inr.inj hv
      refine W.eq (g2 := F0 m 8 ls []) rfl ?_
      refine W.widen (k := 0) (n := 0) (Nat.le_of_ble_eq_true rfl) (Nat.le_of_ble_eq_true rfl) ?_
      refine lv_iload_n C.1 C.2.1 dX11_post_8 rfl (lv_at hl 1 rfl) ?_
      refine lv_i2l (v := Int32.toInt64 v1) C.1 C.2.1 dX11_post_9 rfl ?_
      refine lv_lconst (v := 0) C.1 C.2.1 dX11_post_10 (by decide) ?_
      refine lv_ldc2 (v := 9999) C.1 C.2.1 C.2.2.2.1 (C.2.2.2.2.1.1 _ q943 _) dX11_post_11 ?_
      replace h := ob h; obtain ⟨u8, ex7, h⟩ := h
      rcases u8 with j9 | x7
      · replace h := bsl h
        cases h
        refine sx_xcallS (As := [.long (Int32.toInt64 v1), .long 0, .long 9999]) (rest := []) C hs (c_X11_checkRange hfl ex7) mo_X11_checkRange q842 rfl hl.1 ⟨⟨(Nat.le_of_ble_eq_true rfl), (Nat.le_of_ble_eq_true rfl)⟩, (Nat.le_of_ble_eq_true rfl), (Nat.le_of_ble_eq_true rfl)⟩ rfl (Nat.le_of_ble_eq_true rfl) dX11_post_14 (fun k9 hk9 ce q9 H locs a1 a2 a3 a4 a5 a6 => ?_) (fun vr hv => (inlr hv).elim)
        obtain rfl := Sum.inl.inj hk9
        exact sx_out C ht a1 a2 a3 a4 a5 a6 (Nat.le_of_ble_eq_true rfl) (Nat.le_of_ble_eq_true rfl)
      · replace h := bsr h
        refine sx_xcallS (As := [.long (Int32.toInt64 v1), .long 0, .long 9999]) (rest := []) C hs (c_X11_checkRange hfl ex7) mo_X11_checkRange q842 rfl hl.1 ⟨⟨(Nat.le_of_ble_eq_true rfl), (Nat.le_of_ble_eq_true rfl)⟩, (Nat.le_of_ble_eq_true rfl), (Nat.le_of_ble_eq_true rfl)⟩ rfl (Nat.le_of_ble_eq_true rfl) dX11_post_14 (fun k9 hk9 => (inrl hk9).elim) (fun vr hv H locs hs => ?_)
        obtain rfl := Sum.inr.inj hv
        refine W.eq (g2 := F0 m 17 ls []) rfl ?_
        refine W.widen (k := 0) (n := 0) (Nat.le_of_ble_eq_true rfl) (Nat.le_of_ble_eq_true rfl) ?_
        refine lv_lload C.1 C.2.1 dX11_post_17 (lv_at hl 4 rfl) ?_
        refine lv_lconst (v := 1) C.1 C.2.1 dX11_post_19 (by decide) ?_
        refine lv_ldc2 (v := 1000000000000) C.1 C.2.1 C.2.2.2.1 (C.2.2.2.2.1.1 _ q876 _) dX11_post_20 ?_
        replace h := ob h; obtain ⟨u11, ex10, h⟩ := h
        rcases u11 with j12 | x10
        · replace h := bsl h
          cases h
          refine sx_xcallS (As := [.long v4, .long 1, .long 1000000000000]) (rest := []) C hs (c_X11_checkRange hfl ex10) mo_X11_checkRange q842 rfl hl.1 ⟨⟨(Nat.le_of_ble_eq_true rfl), (Nat.le_of_ble_eq_true rfl)⟩, (Nat.le_of_ble_eq_true rfl), (Nat.le_of_ble_eq_true rfl)⟩ rfl (Nat.le_of_ble_eq_true rfl) dX11_post_23 (fun k9 hk9 ce q9 H locs a1 a2 a3 a4 a5 a6 => ?_) (fun vr hv => (inlr hv).elim)
          obtain rfl := Sum.inl.inj hk9
          exact sx_out C ht a1 a2 a3 a4 a5 a6 (Nat.le_of_ble_eq_true rfl) (Nat.le_of_ble_eq_true rfl)
        · replace h := bsr h
          refine sx_xcallS (As := [.long v4, .long 1, .long 1000000000000]) (rest := []) C hs (c_X11_checkRange hfl ex10) mo_X11_checkRange q842 rfl hl.1 ⟨⟨(Nat.le_of_ble_eq_true rfl), (Nat.le_of_ble_eq_true rfl)⟩, (Nat.le_of_ble_eq_true rfl), (Nat.le_of_ble_eq_true rfl)⟩ rfl (Nat.le_of_ble_eq_true rfl) dX11_post_23 (fun k9 hk9 => (inrl hk9).elim) (fun vr hv H locs hs => ?_)
          obtain rfl := Sum.inr.inj hv
          refine W.eq (g2 := F0 m 26 ls []) rfl ?_
          refine W.widen (k := 0) (n := 0) (Nat.le_of_ble_eq_true rfl) (Nat.le_of_ble_eq_true rfl) ?_
          refine lv_iload_n C.1 C.2.1 dX11_post_26 rfl (lv_at hl 2 rfl) ?_
          refine lv_iload_n C.1 C.2.1 dX11_post_27 rfl (lv_at hl 3 rfl) ?_
          replace h := ob h; obtain ⟨u14, ex13, h⟩ := h
          rcases u14 with j15 | x13
          · replace h := bsl h
            cases h
            refine sx_xcallS (As := [.int v2, .int v3]) (rest := []) C hs (c_X11_checkUnlike hfl ex13) mo_X11_checkUnlike q854 rfl hl.1 ⟨⟨(Nat.le_of_ble_eq_true rfl), (Nat.le_of_ble_eq_true rfl)⟩, (Nat.le_of_ble_eq_true rfl), (Nat.le_of_ble_eq_true rfl)⟩ rfl (Nat.le_of_ble_eq_true rfl) dX11_post_28 (fun k9 hk9 ce q9 H locs a1 a2 a3 a4 a5 a6 => ?_) (fun vr hv => (inlr hv).elim)
            obtain rfl := Sum.inl.inj hk9
            exact sx_out C ht a1 a2 a3 a4 a5 a6 (Nat.le_of_ble_eq_true rfl) (Nat.le_of_ble_eq_true rfl)
          · replace h := bsr h
            refine sx_xcallS (As := [.int v2, .int v3]) (rest := []) C hs (c_X11_checkUnlike hfl ex13) mo_X11_checkUnlike q854 rfl hl.1 ⟨⟨(Nat.le_of_ble_eq_true rfl), (Nat.le_of_ble_eq_true rfl)⟩, (Nat.le_of_ble_eq_true rfl), (Nat.le_of_ble_eq_true rfl)⟩ rfl (Nat.le_of_ble_eq_true rfl) dX11_post_28 (fun k9 hk9 => (inrl hk9).elim) (fun vr hv H locs hs => ?_)
            obtain rfl := Sum.inr.inj hv
            refine W.eq (g2 := F0 m 31 ls []) rfl ?_
            refine W.widen (k := 0) (n := 0) (Nat.le_of_ble_eq_true rfl) (Nat.le_of_ble_eq_true rfl) ?_
            refine lv_aload_n C.1 C.2.1 dX11_post_31 rfl (lv_at hl 0 rfl) ?_
            refine lv_iload_n C.1 C.2.1 dX11_post_32 rfl (lv_at hl 1 rfl) ?_
            replace h := ob h; obtain ⟨⟨⟩, i16, h⟩ := h
            replace h := ob h; obtain ⟨u18, ex17, h⟩ := h
            rcases u18 with j19 | x17
            · replace h := bsl h
              cases h
              refine sx_xcallV (As := [.int v1]) (rest := []) C hs (c_X11_checkNotShut hfl ex17) mo_X11_checkNotShut q1252 i16 rfl rfl hl.1 ⟨⟨(Nat.le_of_ble_eq_true rfl), (Nat.le_of_ble_eq_true rfl)⟩, (Nat.le_of_ble_eq_true rfl), (Nat.le_of_ble_eq_true rfl)⟩ rfl (Nat.le_of_ble_eq_true rfl) dX11_post_33 (fun k9 hk9 ce q9 H locs a1 a2 a3 a4 a5 a6 => ?_) (fun vr hv => (inlr hv).elim)
              obtain rfl := Sum.inl.inj hk9
              exact sx_out C ht a1 a2 a3 a4 a5 a6 (Nat.le_of_ble_eq_true rfl) (Nat.le_of_ble_eq_true rfl)
            · replace h := bsr h
              refine sx_xcallV (As := [.int v1]) (rest := []) C hs (c_X11_checkNotShut hfl ex17) mo_X11_checkNotShut q1252 i16 rfl rfl hl.1 ⟨⟨(Nat.le_of_ble_eq_true rfl), (Nat.le_of_ble_eq_true rfl)⟩, (Nat.le_of_ble_eq_true rfl), (Nat.le_of_ble_eq_true rfl)⟩ rfl (Nat.le_of_ble_eq_true rfl) dX11_post_33 (fun k9 hk9 => (inrl hk9).elim) (fun vr hv H locs hs => ?_)
              obtain rfl := Sum.inr.inj hv
              refine W.eq (g2 := F0 m 36 ls []) rfl ?_
              refine W.widen (k := 0) (n := 0) (Nat.le_of_ble_eq_true rfl) (Nat.le_of_ble_eq_true rfl) ?_
              refine lv_aload_n C.1 C.2.1 dX11_post_36 rfl (lv_at hl 0 rfl) ?_
              refine lv_iconst (v := 1) C.1 C.2.1 dX11_post_37 (by decide) ?_
              replace h := ob h; obtain ⟨u21, ex20, h⟩ := h
              rcases u21 with j22 | x20
              · replace h := bsl h
                cases h
                refine sx_xcallV (As := [.int 1]) (rest := []) C hs (c_X11_checkRoom hfl ex20) mo_X11_checkRoom q1261 i16 rfl rfl hl.1 ⟨⟨(Nat.le_of_ble_eq_true rfl), (Nat.le_of_ble_eq_true rfl)⟩, (Nat.le_of_ble_eq_true rfl), (Nat.le_of_ble_eq_true rfl)⟩ rfl (Nat.le_of_ble_eq_true rfl) dX11_post_38 (fun k9 hk9 ce q9 H locs a1 a2 a3 a4 a5 a6 => ?_) (fun vr hv => (inlr hv).elim)
                obtain rfl := Sum.inl.inj hk9
                exact sx_out C ht a1 a2 a3 a4 a5 a6 (Nat.le_of_ble_eq_true rfl) (Nat.le_of_ble_eq_true rfl)
              · replace h := bsr h
                refine sx_xcallV (As := [.int 1]) (rest := []) C hs (c_X11_checkRoom hfl ex20) mo_X11_checkRoom q1261 i16 rfl rfl hl.1 ⟨⟨(Nat.le_of_ble_eq_true rfl), (Nat.le_of_ble_eq_true rfl)⟩, (Nat.le_of_ble_eq_true rfl), (Nat.le_of_ble_eq_true rfl)⟩ rfl (Nat.le_of_ble_eq_true rfl) dX11_post_38 (fun k9 hk9 => (inrl hk9).elim) (fun vr hv H locs hs => ?_)
                obtain rfl := Sum.inr.inj hv
                refine W.eq (g2 := F0 m 41 ls []) rfl ?_
                refine W.widen (k := 0) (n := 0) (Nat.le_of_ble_eq_true rfl) (Nat.le_of_ble_eq_true rfl) ?_
                refine lv_aload_n C.1 C.2.1 dX11_post_41 rfl (lv_at hl 0 rfl) ?_
                replace h := ob h; obtain ⟨p23, ep23, h⟩ := h
                refine sx_getV C hs fo_X11_67 (gR_v ep23) dX11_post_42 ?_
                refine lv_iload_n C.1 C.2.1 dX11_post_45 rfl (lv_at hl 1 rfl) ?_
                refine lv_iconst (v := (-1)) C.1 C.2.1 dX11_post_46 (by decide) ?_
                replace h := ob h; obtain ⟨⟨⟩, i24, h⟩ := h
                replace h := ob2 h; obtain ⟨x25, τ26, ex25, h⟩ := h
                refine sx_callV (As := [.int v1, .int (-1)]) (rest := []) C hs (c_X3_begin ex25) mo_X3_begin q1270 i24 rfl rfl hl.1 ⟨⟨(Nat.le_of_ble_eq_true rfl), (Nat.le_of_ble_eq_true rfl)⟩, (Nat.le_of_ble_eq_true rfl), (Nat.le_of_ble_eq_true rfl)⟩ rfl (Nat.le_of_ble_eq_true rfl) dX11_post_47 (fun H locs hs => ?_)
                refine W.eq (g2 := F0 m 50 ls []) rfl ?_
                refine lv_aload_n C.1 C.2.1 dX11_post_50 rfl (lv_at hl 0 rfl) ?_
                replace h := ob h; obtain ⟨p27, ep27, h⟩ := h
                refine sx_getV C hs fo_X11_67 (gR_v ep27) dX11_post_51 ?_
                refine lv_iload_n C.1 C.2.1 dX11_post_54 rfl (lv_at hl 2 rfl) ?_
                refine lv_iload_n C.1 C.2.1 dX11_post_55 rfl (lv_at hl 3 rfl) ?_
                refine lv_lload C.1 C.2.1 dX11_post_56 (lv_at hl 4 rfl) ?_
                replace h := ob h; obtain ⟨⟨⟩, i28, h⟩ := h
                replace h := ob2 h; obtain ⟨x29, τ30, ex29, h⟩ := h
                refine sx_callV (As := [.int v2, .int v3, .long v4]) (rest := []) C hs (c_X3_enter ex29) mo_X3_enter q1274 i28 rfl rfl hl.1 ⟨⟨(Nat.le_of_ble_eq_true rfl), (Nat.le_of_ble_eq_true rfl)⟩, (Nat.le_of_ble_eq_true rfl), (Nat.le_of_ble_eq_true rfl)⟩ rfl (Nat.le_of_ble_eq_true rfl) dX11_post_58 (fun H locs hs => ?_)
                refine W.eq (g2 := F0 m 61 ls [.int x29]) rfl ?_
                cases h
                exact sx_iretX C hs hr rfl dX11_post_61
def f_X11_atHome (σ : Sto) (sz : Nat) (a0 : Nat) (v1 : Int32) (v2 : Int64) : Option ((Nat ⊕ Int64) × Sto × Nat) :=
 if v1 = 0 then
 some (.inr v2, σ, sz)
 else
 (isO σ a0 10).bind fun _ =>
 b3 (f_X11_changed σ sz a0 v1 0 v2) fun u6 τ4 y5 =>
 bs u6 (fun j7 => some (.inl j7, τ4, y5)) fun x3 =>
 some (.inr x3, τ4, y5)
set_option maxHeartbeats 4000000 in
set_option maxRecDepth 100000 in
theorem c_X11_atHome {l : Launch} (hfl : l.stackTraces = false) {g : PP} {σ : Sto} {sz : Nat} {a0 : Nat} {v1 : Int32} {v2 : Int64} {r9 : Nat ⊕ Int64} {σ9 : Sto} {sz9 : Nat} (h : f_X11_atHome σ sz a0 v1 v2 = some (r9, σ9, sz9)) : vx_Met l yX11_atHome [Cond.code yX11_atHome cX11_atHome 4 (some .long)] (rmk 11 2 8 220) (Pre g σ sz [.ref a0, .int v1, .long v2]) (PstX g (Sum.map id vL r9) σ9 sz9) (XpX g (Sum.map id vL r9) σ9 sz9) 2 8 (Aw g) := by
  refine vx_ofW (cc := cX11_atHome) (maxL := 4) (ret := (some .long)) (by decide) rfl ?_
  intro p e s m args below meth c s₁ B hml ht hv
  obtain ⟨rfl, C, hs⟩ := ctx_of B hml hv
  have C : Cx g p s m meth c cX11_atHome 4 "Tillhouse" := C
  have hr := B.returns
  have hl := lv_entry ([.ref a0, .int v1, .long v2]) (n := 4) (Nat.le_of_ble_eq_true rfl)
  rw [lg_entry_eq]
  generalize (lg_sl ([.ref a0, .int v1, .long v2]) ++ List.replicate (4 - (lg_sl ([.ref a0, .int v1, .long v2])).length) Slot.unset).toArray = ls at hl ⊢
  have hl : lv_has ls 4 [(0, .ref a0), (1, .int v1), (2, .long v2)] := hl
  unfold f_X11_atHome at h
  refine lv_iload_n C.1 C.2.1 dX11_atHome_0 rfl (lv_at hl 1 rfl) ?_
  refine lv_if_ne (tgt := 8) C.1 C.2.1 dX11_atHome_1 (by decide) (fun c1 => ?_) (fun c1 => ?_)
  · replace h := iN c1 h
    refine lv_aload_n C.1 C.2.1 dX11_atHome_8 rfl (lv_at hl 0 rfl) ?_
    refine lv_iload_n C.1 C.2.1 dX11_atHome_9 rfl (lv_at hl 1 rfl) ?_
    refine lv_iconst (v := 0) C.1 C.2.1 dX11_atHome_10 (by decide) ?_
    refine lv_lload_n C.1 C.2.1 dX11_atHome_11 rfl (lv_at hl 2 rfl) ?_
    replace h := ob h; obtain ⟨⟨⟩, i2, h⟩ := h
    replace h := ob3 h; obtain ⟨u6, τ4, y5, ex3, h⟩ := h
    rcases u6 with j7 | x3
    · replace h := bsl h
      cases h
      refine sx_xcallV (As := [.int v1, .int 0, .long v2]) (rest := []) C hs (c_X11_changed hfl ex3) mo_X11_changed q877 i2 rfl rfl hl.1 ⟨⟨(Nat.le_of_ble_eq_true rfl), (Nat.le_of_ble_eq_true rfl)⟩, (Nat.le_of_ble_eq_true rfl), (Nat.le_of_ble_eq_true rfl)⟩ rfl (Nat.le_of_ble_eq_true rfl) dX11_atHome_12 (fun k9 hk9 ce q9 H locs a1 a2 a3 a4 a5 a6 => ?_) (fun vr hv => (inlr hv).elim)
      obtain rfl := Sum.inl.inj hk9
      exact sx_out C ht a1 a2 a3 a4 a5 a6 (Nat.le_of_ble_eq_true rfl) (Nat.le_of_ble_eq_true rfl)
    · replace h := bsr h
      refine sx_xcallV (As := [.int v1, .int 0, .long v2]) (rest := []) C hs (c_X11_changed hfl ex3) mo_X11_changed q877 i2 rfl rfl hl.1 ⟨⟨(Nat.le_of_ble_eq_true rfl), (Nat.le_of_ble_eq_true rfl)⟩, (Nat.le_of_ble_eq_true rfl), (Nat.le_of_ble_eq_true rfl)⟩ rfl (Nat.le_of_ble_eq_true rfl) dX11_atHome_12 (fun k9 hk9 => (inrl hk9).elim) (fun vr hv H locs hs => ?_)
      obtain rfl := Sum.inr.inj hv
      refine W.eq (g2 := F0 m 15 ls [.long x3]) rfl ?_
      refine W.widen (k := 2) (n := 8) (Nat.le_of_ble_eq_true rfl) (Nat.le_of_ble_eq_true rfl) ?_
      cases h
      exact sx_lretX C hs hr dX11_atHome_15
  · replace h := ip c1 h
    refine lv_lload_n C.1 C.2.1 dX11_atHome_4 rfl (lv_at hl 2 rfl) ?_
    refine lv_goto (tgt := 15) C.1 C.2.1 dX11_atHome_5 (by decide) ?_
    cases h
    refine W.widen (k := 2) (n := 8) (Nat.le_of_ble_eq_true rfl) (Nat.le_of_ble_eq_true rfl) ?_
    exact sx_lretX C hs hr dX11_atHome_15
def b_X11_book_184 (N : Nat) (σ : Sto) (sz : Nat) (a0 : Nat) (v7 : Int64) : Option ((Nat ⊕ Int32) × Sto × Nat) :=
 if v7 ≤ 0 then
 (gR σ a0 10 10).bind fun p2 =>
 (gI σ p2 3 4).bind fun x3 =>
 some (.inr x3, σ, sz)
 else
 (gR σ a0 10 10).bind fun p4 =>
 (isO σ p4 3).bind fun _ =>
 b2 (f_X3_enter σ p4 1 3 v7) fun x6 τ7 =>
 (gR τ7 a0 10 10).bind fun p8 =>
 (gI τ7 p8 3 4).bind fun x9 =>
 some (.inr x9, τ7, sz)
def b_X11_book_151 (N : Nat) (σ : Sto) (sz : Nat) (a0 : Nat) (v1 : Int32) (a2 : Nat) (v3 : Int64) (v7 : Int64) (s0 : Int32) (s1 : Int32) (s2 : Nat) : Option ((Nat ⊕ Int32) × Sto × Nat) :=
 (isO σ s2 10).bind fun _ =>
 (f_X11_checkRoom σ s2 (s1 + s0)).bind fun u3 =>
 bs u3 (fun j4 => some (.inl j4, σ, sz)) fun x2 =>
 (gR σ a0 10 10).bind fun p5 =>
 (gI σ a2 2 0).bind fun x6 =>
 (isO σ p5 3).bind fun _ =>
 b2 (f_X3_begin σ p5 x6 v1) fun x8 τ9 =>
 if v3 ≤ 0 then
 b_X11_book_184 N τ9 sz a0 v7
 else
 (gR τ9 a0 10 10).bind fun p11 =>
 (isO τ9 p11 3).bind fun _ =>
 b2 (f_X3_enter τ9 p11 1 2 v3) fun x13 τ14 =>
 b_X11_book_184 N τ14 sz a0 v7
def b_X11_book_139 (N : Nat) (σ : Sto) (sz : Nat) (a0 : Nat) (v1 : Int32) (a2 : Nat) (v3 : Int64) (v7 : Int64) (s0 : Int32) (s1 : Nat) : Option ((Nat ⊕ Int32) × Sto × Nat) :=
 if v7 ≤ 0 then
 b_X11_book_151 N σ sz a0 v1 a2 v3 v7 0 s0 s1
 else
 b_X11_book_151 N σ sz a0 v1 a2 v3 v7 1 s0 s1
def b_X11_book_52 (N : Nat) (σ : Sto) (sz : Nat) (a0 : Nat) (v1 : Int32) (a2 : Nat) : Option ((Nat ⊕ Int32) × Sto × Nat) :=
 (isO σ a0 10).bind fun _ =>
 (f_X11_modeOf σ a0 a2).bind fun x2 =>
 (isO σ a2 2).bind fun _ =>
 (f_X2_netSum N σ a2 x2).bind fun u5 =>
 bs u5 (fun j6 => some (.inl j6, σ, sz)) fun x4 =>
 (gI σ a2 2 1).bind fun x7 =>
 (f_X11_modeOf σ a0 a2).bind fun x8 =>
 (f_X2_taxSum N σ a2 x8).bind fun u10 =>
 bs u10 (fun j11 => some (.inl j11, σ, sz)) fun x9 =>
 b3 (f_X11_atHome σ sz a0 x7 (x4 + x9)) fun u15 τ13 y14 =>
 bs u15 (fun j16 => some (.inl j16, τ13, y14)) fun x12 =>
 (gI τ13 a2 2 1).bind fun x17 =>
 (isO τ13 a0 10).bind fun _ =>
 b3 (f_X11_atHome τ13 y14 a0 x17 x4) fun u22 τ20 y21 =>
 bs u22 (fun j23 => some (.inl j23, τ20, y21)) fun x19 =>
 if 1000000000000 < x19 then
 some (.inl 3, τ20, y21)
 else
 if x12 ≤ 1000000000000 then
 lt_ (x12 - x19) fun x26 =>
 if x19 ≤ 0 then
 b_X11_book_139 N τ20 y21 a0 v1 a2 x19 x26 0 a0
 else
 b_X11_book_139 N τ20 y21 a0 v1 a2 x19 x26 1 a0
 else
 some (.inl 3, τ20, y21)
def f_X11_book (N : Nat) (σ : Sto) (sz : Nat) (a0 : Nat) (v1 : Int32) : Option ((Nat ⊕ Int32) × Sto × Nat) :=
 (isO σ a0 10).bind fun _ =>
 (f_X11_invoiceAt σ a0 v1).bind fun u3 =>
 bs u3 (fun j4 => some (.inl j4, σ, sz)) fun p2 =>
 (gR σ a0 10 10).bind fun p5 =>
 (isO σ p5 3).bind fun _ =>
 (f_X3_hasBooking N σ p5 v1).bind fun x7 =>
 if x7 = 0 then
 (gI σ p2 2 0).bind fun x9 =>
 (f_X11_checkNotShut σ a0 x9).bind fun u11 =>
 bs u11 (fun j12 => some (.inl j12, σ, sz)) fun x10 =>
 (gI σ p2 2 1).bind fun x13 =>
 if x13 = 0 then
 b_X11_book_52 N σ sz a0 v1 p2
 else
 (gI σ p2 2 1).bind fun x15 =>
 (f_X11_checkRate σ a0 x15 0).bind fun u17 =>
 bs u17 (fun j18 => some (.inl j18, σ, sz)) fun x16 =>
 b_X11_book_52 N σ sz a0 v1 p2
 else
 some (.inl 5, σ, sz)
set_option maxHeartbeats 4000000 in
set_option maxRecDepth 100000 in
theorem t_X11_book_184 {l : Launch} {g : PP} {p : Program} {e : Env} {s : State} {m : MethodId} {args : Array Value} {below : List Frame} {meth : Method} {c : Code} (hfl : l.stackTraces = false) (C : Cx g p s m meth c cX11_book 9 "Tillhouse") (hr : meth.sig.returnType = some .int) (ht : ∀ x ∈ c.exceptionTable.toList, False) {N : Nat}  {σ : Sto} {sz : Nat} {a0 : Nat} {v7 : Int64} {r9 : Nat ⊕ Int32} {σ9 : Sto} {sz9 : Nat}
    (h : b_X11_book_184 N σ sz a0 v7 = some (r9, σ9, sz9)) 
    {H : Heap} {locs : List Loc} {ls : Array Slot} (hs : HS g s σ sz H locs) (hl : lv_has ls 9 [(0, .ref a0), (7, .long v7)]) : W p l e (rmk 13 5 22 269) s m args below meth c H locs 4 16 (vx_MQ below (PstX g (Sum.map id vI r9) σ9 sz9) (XpX g (Sum.map id vI r9) σ9 sz9) args s 5 22 (Aw g)) (F0 m 184 ls []) := by
  unfold b_X11_book_184 at h
  refine lv_lload C.1 C.2.1 dX11_book_184 (lv_at hl 1 rfl) ?_
  refine lv_lconst (v := 0) C.1 C.2.1 dX11_book_186 (by decide) ?_
  refine W.lcmp C.1 C.2.1 dX11_book_187 ?_
  refine lv_if_le (tgt := 203) C.1 C.2.1 dX11_book_188 (by decide) (fun c1 => ?_) (fun c1 => ?_)
  · replace h := ip ((lg_cmp_le _ _).mp c1) h
    refine lv_aload_n C.1 C.2.1 dX11_book_203 rfl (lv_at hl 0 rfl) ?_
    replace h := ob h; obtain ⟨p2, ep2, h⟩ := h
    refine sx_getV C hs fo_X11_67 (gR_v ep2) dX11_book_204 ?_
    replace h := ob h; obtain ⟨x3, ex3, h⟩ := h
    refine sx_getV C hs fo_X11_441 (gI_v ex3) dX11_book_207 ?_
    cases h
    refine W.widen (k := 5) (n := 22) (Nat.le_of_ble_eq_true rfl) (Nat.le_of_ble_eq_true rfl) ?_
    exact sx_iretX C hs hr rfl dX11_book_210
  · replace h := iN (fun q => c1 ((lg_cmp_le _ _).mpr q)) h
    refine lv_aload_n C.1 C.2.1 dX11_book_191 rfl (lv_at hl 0 rfl) ?_
    replace h := ob h; obtain ⟨p4, ep4, h⟩ := h
    refine sx_getV C hs fo_X11_67 (gR_v ep4) dX11_book_192 ?_
    refine lv_iconst (v := 1) C.1 C.2.1 dX11_book_195 (by decide) ?_
    refine lv_iconst (v := 3) C.1 C.2.1 dX11_book_196 (by decide) ?_
    refine lv_lload C.1 C.2.1 dX11_book_197 (lv_at hl 1 rfl) ?_
    replace h := ob h; obtain ⟨⟨⟩, i5, h⟩ := h
    replace h := ob2 h; obtain ⟨x6, τ7, ex6, h⟩ := h
    refine sx_callV (As := [.int 1, .int 3, .long v7]) (rest := []) C hs (c_X3_enter ex6) mo_X3_enter q1274 i5 rfl rfl hl.1 ⟨⟨(Nat.le_of_ble_eq_true rfl), (Nat.le_of_ble_eq_true rfl)⟩, (Nat.le_of_ble_eq_true rfl), (Nat.le_of_ble_eq_true rfl)⟩ rfl (Nat.le_of_ble_eq_true rfl) dX11_book_199 (fun H locs hs => ?_)
    refine W.eq (g2 := F0 m 202 ls [.int x6]) rfl ?_
    refine lv_pop C.1 C.2.1 dX11_book_202 rfl ?_
    refine lv_aload_n C.1 C.2.1 dX11_book_203 rfl (lv_at hl 0 rfl) ?_
    replace h := ob h; obtain ⟨p8, ep8, h⟩ := h
    refine sx_getV C hs fo_X11_67 (gR_v ep8) dX11_book_204 ?_
    replace h := ob h; obtain ⟨x9, ex9, h⟩ := h
    refine sx_getV C hs fo_X11_441 (gI_v ex9) dX11_book_207 ?_
    cases h
    refine W.widen (k := 5) (n := 22) (Nat.le_of_ble_eq_true rfl) (Nat.le_of_ble_eq_true rfl) ?_
    exact sx_iretX C hs hr rfl dX11_book_210
set_option maxHeartbeats 4000000 in
set_option maxRecDepth 100000 in
theorem t_X11_book_151 {l : Launch} {g : PP} {p : Program} {e : Env} {s : State} {m : MethodId} {args : Array Value} {below : List Frame} {meth : Method} {c : Code} (hfl : l.stackTraces = false) (C : Cx g p s m meth c cX11_book 9 "Tillhouse") (hr : meth.sig.returnType = some .int) (ht : ∀ x ∈ c.exceptionTable.toList, False) {N : Nat}  {σ : Sto} {sz : Nat} {a0 : Nat} {v1 : Int32} {a2 : Nat} {v3 : Int64} {v7 : Int64} {s0 : Int32} {s1 : Int32} {s2 : Nat} {r9 : Nat ⊕ Int32} {σ9 : Sto} {sz9 : Nat}
    (h : b_X11_book_151 N σ sz a0 v1 a2 v3 v7 s0 s1 s2 = some (r9, σ9, sz9)) 
    {H : Heap} {locs : List Loc} {ls : Array Slot} (hs : HS g s σ sz H locs) (hl : lv_has ls 9 [(0, .ref a0), (1, .int v1), (2, .ref a2), (3, .long v3), (7, .long v7)]) : W p l e (rmk 13 5 22 269) s m args below meth c H locs 4 16 (vx_MQ below (PstX g (Sum.map id vI r9) σ9 sz9) (XpX g (Sum.map id vI r9) σ9 sz9) args s 5 22 (Aw g)) (F0 m 151 ls [.int s0, .int s1, .ref s2]) := by
  unfold b_X11_book_151 at h
  refine lv_iadd C.1 C.2.1 dX11_book_151 ?_
  replace h := ob h; obtain ⟨⟨⟩, i1, h⟩ := h
  replace h := ob h; obtain ⟨u3, ex2, h⟩ := h
  rcases u3 with j4 | x2
  · replace h := bsl h
    cases h
    refine sx_xcallV (As := [.int (s1 + s0)]) (rest := []) C hs (c_X11_checkRoom hfl ex2) mo_X11_checkRoom q1261 i1 rfl rfl hl.1 ⟨⟨(Nat.le_of_ble_eq_true rfl), (Nat.le_of_ble_eq_true rfl)⟩, (Nat.le_of_ble_eq_true rfl), (Nat.le_of_ble_eq_true rfl)⟩ rfl (Nat.le_of_ble_eq_true rfl) dX11_book_152 (fun k9 hk9 ce q9 H locs a1 a2 a3 a4 a5 a6 => ?_) (fun vr hv => (inlr hv).elim)
    obtain rfl := Sum.inl.inj hk9
    exact sx_out C ht a1 a2 a3 a4 a5 a6 (Nat.le_of_ble_eq_true rfl) (Nat.le_of_ble_eq_true rfl)
  · replace h := bsr h
    refine sx_xcallV (As := [.int (s1 + s0)]) (rest := []) C hs (c_X11_checkRoom hfl ex2) mo_X11_checkRoom q1261 i1 rfl rfl hl.1 ⟨⟨(Nat.le_of_ble_eq_true rfl), (Nat.le_of_ble_eq_true rfl)⟩, (Nat.le_of_ble_eq_true rfl), (Nat.le_of_ble_eq_true rfl)⟩ rfl (Nat.le_of_ble_eq_true rfl) dX11_book_152 (fun k9 hk9 => (inrl hk9).elim) (fun vr hv H locs hs => ?_)
    obtain rfl := Sum.inr.inj hv
    refine W.eq (g2 := F0 m 155 ls []) rfl ?_
    refine W.widen (k := 4) (n := 16) (Nat.le_of_ble_eq_true rfl) (Nat.le_of_ble_eq_true rfl) ?_
    refine lv_aload_n C.1 C.2.1 dX11_book_155 rfl (lv_at hl 0 rfl) ?_
    replace h := ob h; obtain ⟨p5, ep5, h⟩ := h
    refine sx_getV C hs fo_X11_67 (gR_v ep5) dX11_book_156 ?_
    refine lv_aload_n C.1 C.2.1 dX11_book_159 rfl (lv_at hl 2 rfl) ?_
    replace h := ob h; obtain ⟨x6, ex6, h⟩ := h
    refine sx_getV C hs fo_X11_320 (gI_v ex6) dX11_book_160 ?_
    refine lv_iload_n C.1 C.2.1 dX11_book_163 rfl (lv_at hl 1 rfl) ?_
    replace h := ob h; obtain ⟨⟨⟩, i7, h⟩ := h
    replace h := ob2 h; obtain ⟨x8, τ9, ex8, h⟩ := h
    refine sx_callV (As := [.int x6, .int v1]) (rest := []) C hs (c_X3_begin ex8) mo_X3_begin q1270 i7 rfl rfl hl.1 ⟨⟨(Nat.le_of_ble_eq_true rfl), (Nat.le_of_ble_eq_true rfl)⟩, (Nat.le_of_ble_eq_true rfl), (Nat.le_of_ble_eq_true rfl)⟩ rfl (Nat.le_of_ble_eq_true rfl) dX11_book_164 (fun H locs hs => ?_)
    refine W.eq (g2 := F0 m 167 ls []) rfl ?_
    refine lv_lload_n C.1 C.2.1 dX11_book_167 rfl (lv_at hl 3 rfl) ?_
    refine lv_lconst (v := 0) C.1 C.2.1 dX11_book_168 (by decide) ?_
    refine W.lcmp C.1 C.2.1 dX11_book_169 ?_
    refine lv_if_le (tgt := 184) C.1 C.2.1 dX11_book_170 (by decide) (fun c10 => ?_) (fun c10 => ?_)
    · replace h := ip ((lg_cmp_le _ _).mp c10) h
      exact t_X11_book_184 hfl C hr ht h hs (lv_sub hl [0, 4] rfl)
    · replace h := iN (fun q => c10 ((lg_cmp_le _ _).mpr q)) h
      refine lv_aload_n C.1 C.2.1 dX11_book_173 rfl (lv_at hl 0 rfl) ?_
      replace h := ob h; obtain ⟨p11, ep11, h⟩ := h
      refine sx_getV C hs fo_X11_67 (gR_v ep11) dX11_book_174 ?_
      refine lv_iconst (v := 1) C.1 C.2.1 dX11_book_177 (by decide) ?_
      refine lv_iconst (v := 2) C.1 C.2.1 dX11_book_178 (by decide) ?_
      refine lv_lload_n C.1 C.2.1 dX11_book_179 rfl (lv_at hl 3 rfl) ?_
      replace h := ob h; obtain ⟨⟨⟩, i12, h⟩ := h
      replace h := ob2 h; obtain ⟨x13, τ14, ex13, h⟩ := h
      refine sx_callV (As := [.int 1, .int 2, .long v3]) (rest := []) C hs (c_X3_enter ex13) mo_X3_enter q1274 i12 rfl rfl hl.1 ⟨⟨(Nat.le_of_ble_eq_true rfl), (Nat.le_of_ble_eq_true rfl)⟩, (Nat.le_of_ble_eq_true rfl), (Nat.le_of_ble_eq_true rfl)⟩ rfl (Nat.le_of_ble_eq_true rfl) dX11_book_180 (fun H locs hs => ?_)
      refine W.eq (g2 := F0 m 183 ls [.int x13]) rfl ?_
      refine lv_pop C.1 C.2.1 dX11_book_183 rfl ?_
      exact t_X11_book_184 hfl C hr ht h hs (lv_sub hl [0, 4] rfl)
set_option maxHeartbeats 4000000 in
set_option maxRecDepth 100000 in
theorem t_X11_book_139 {l : Launch} {g : PP} {p : Program} {e : Env} {s : State} {m : MethodId} {args : Array Value} {below : List Frame} {meth : Method} {c : Code} (hfl : l.stackTraces = false) (C : Cx g p s m meth c cX11_book 9 "Tillhouse") (hr : meth.sig.returnType = some .int) (ht : ∀ x ∈ c.exceptionTable.toList, False) {N : Nat}  {σ : Sto} {sz : Nat} {a0 : Nat} {v1 : Int32} {a2 : Nat} {v3 : Int64} {v7 : Int64} {s0 : Int32} {s1 : Nat} {r9 : Nat ⊕ Int32} {σ9 : Sto} {sz9 : Nat}
    (h : b_X11_book_139 N σ sz a0 v1 a2 v3 v7 s0 s1 = some (r9, σ9, sz9)) 
    {H : Heap} {locs : List Loc} {ls : Array Slot} (hs : HS g s σ sz H locs) (hl : lv_has ls 9 [(0, .ref a0), (1, .int v1), (2, .ref a2), (3, .long v3), (7, .long v7)]) : W p l e (rmk 13 5 22 269) s m args below meth c H locs 4 16 (vx_MQ below (PstX g (Sum.map id vI r9) σ9 sz9) (XpX g (Sum.map id vI r9) σ9 sz9) args s 5 22 (Aw g)) (F0 m 139 ls [.int s0, .ref s1]) := by
  unfold b_X11_book_139 at h
  refine lv_lload C.1 C.2.1 dX11_book_139 (lv_at hl 4 rfl) ?_
  refine lv_lconst (v := 0) C.1 C.2.1 dX11_book_141 (by decide) ?_
  refine W.lcmp C.1 C.2.1 dX11_book_142 ?_
  refine lv_if_le (tgt := 150) C.1 C.2.1 dX11_book_143 (by decide) (fun c1 => ?_) (fun c1 => ?_)
  · replace h := ip ((lg_cmp_le _ _).mp c1) h
    refine lv_iconst (v := 0) C.1 C.2.1 dX11_book_150 (by decide) ?_
    exact t_X11_book_151 hfl C hr ht h hs (lv_sub hl [0, 1, 2, 3, 4] rfl)
  · replace h := iN (fun q => c1 ((lg_cmp_le _ _).mpr q)) h
    refine lv_iconst (v := 1) C.1 C.2.1 dX11_book_146 (by decide) ?_
    refine lv_goto (tgt := 151) C.1 C.2.1 dX11_book_147 (by decide) ?_
    exact t_X11_book_151 hfl C hr ht h hs (lv_sub hl [0, 1, 2, 3, 4] rfl)
set_option maxHeartbeats 4000000 in
set_option maxRecDepth 100000 in
theorem t_X11_book_52 {l : Launch} {g : PP} {p : Program} {e : Env} {s : State} {m : MethodId} {args : Array Value} {below : List Frame} {meth : Method} {c : Code} (hfl : l.stackTraces = false) (C : Cx g p s m meth c cX11_book 9 "Tillhouse") (hr : meth.sig.returnType = some .int) (ht : ∀ x ∈ c.exceptionTable.toList, False) {N : Nat}  {σ : Sto} {sz : Nat} {a0 : Nat} {v1 : Int32} {a2 : Nat} {r9 : Nat ⊕ Int32} {σ9 : Sto} {sz9 : Nat}
    (h : b_X11_book_52 N σ sz a0 v1 a2 = some (r9, σ9, sz9)) 
    {H : Heap} {locs : List Loc} {ls : Array Slot} (hs : HS g s σ sz H locs) (hl : lv_has ls 9 [(0, .ref a0), (1, .int v1), (2, .ref a2)]) : W p l e (rmk 13 5 22 269) s m args below meth c H locs 0 0 (vx_MQ below (PstX g (Sum.map id vI r9) σ9 sz9) (XpX g (Sum.map id vI r9) σ9 sz9) args s 5 22 (Aw g)) (F0 m 52 ls []) := by
  unfold b_X11_book_52 at h
  refine lv_aload_n C.1 C.2.1 dX11_book_52 rfl (lv_at hl 2 rfl) ?_
  refine lv_aload_n C.1 C.2.1 dX11_book_53 rfl (lv_at hl 0 rfl) ?_
  refine lv_aload_n C.1 C.2.1 dX11_book_54 rfl (lv_at hl 2 rfl) ?_
  replace h := ob h; obtain ⟨⟨⟩, i1, h⟩ := h
  replace h := ob h; obtain ⟨x2, ex2, h⟩ := h
  refine sx_callV (As := [.ref a2]) (rest := [.ref a2]) C hs (c_X11_modeOf ex2) mo_X11_modeOf q1079 i1 rfl rfl hl.1 ⟨⟨(Nat.le_of_ble_eq_true rfl), (Nat.le_of_ble_eq_true rfl)⟩, (Nat.le_of_ble_eq_true rfl), (Nat.le_of_ble_eq_true rfl)⟩ rfl (Nat.le_of_ble_eq_true rfl) dX11_book_55 (fun H locs hs => ?_)
  refine W.eq (g2 := F0 m 58 ls [.int x2, .ref a2]) rfl ?_
  replace h := ob h; obtain ⟨⟨⟩, i3, h⟩ := h
  replace h := ob h; obtain ⟨u5, ex4, h⟩ := h
  rcases u5 with j6 | x4
  · replace h := bsl h
    cases h
    refine sx_xcallV (As := [.int x2]) (rest := []) C hs (c_X2_netSum hfl ex4) mo_X2_netSum q1104 i3 rfl rfl hl.1 ⟨⟨(Nat.le_of_ble_eq_true rfl), (Nat.le_of_ble_eq_true rfl)⟩, (Nat.le_of_ble_eq_true rfl), (Nat.le_of_ble_eq_true rfl)⟩ rfl (Nat.le_of_ble_eq_true rfl) dX11_book_58 (fun k9 hk9 ce q9 H locs a1 a2 a3 a4 a5 a6 => ?_) (fun vr hv => (inlr hv).elim)
    obtain rfl := Sum.inl.inj hk9
    exact sx_out C ht a1 a2 a3 a4 a5 a6 (Nat.le_of_ble_eq_true rfl) (Nat.le_of_ble_eq_true rfl)
  · replace h := bsr h
    refine sx_xcallV (As := [.int x2]) (rest := []) C hs (c_X2_netSum hfl ex4) mo_X2_netSum q1104 i3 rfl rfl hl.1 ⟨⟨(Nat.le_of_ble_eq_true rfl), (Nat.le_of_ble_eq_true rfl)⟩, (Nat.le_of_ble_eq_true rfl), (Nat.le_of_ble_eq_true rfl)⟩ rfl (Nat.le_of_ble_eq_true rfl) dX11_book_58 (fun k9 hk9 => (inrl hk9).elim) (fun vr hv H locs hs => ?_)
    obtain rfl := Sum.inr.inj hv
    refine W.eq (g2 := F0 m 61 ls [.long x4]) rfl ?_
    refine W.widen (k := 0) (n := 0) (Nat.le_of_ble_eq_true rfl) (Nat.le_of_ble_eq_true rfl) ?_
    refine lv_lstore_n (lv' := [(3, .long x4), (0, .ref a0), (1, .int v1), (2, .ref a2)]) C.1 C.2.1 dX11_book_61 rfl hl (by decide) rfl (fun ls hl => ?_)
    refine lv_aload_n C.1 C.2.1 dX11_book_62 rfl (lv_at hl 1 rfl) ?_
    refine lv_aload_n C.1 C.2.1 dX11_book_63 rfl (lv_at hl 3 rfl) ?_
    replace h := ob h; obtain ⟨x7, ex7, h⟩ := h
    refine sx_getV C hs fo_X11_345 (gI_v ex7) dX11_book_64 ?_
    refine lv_lload_n C.1 C.2.1 dX11_book_67 rfl (lv_at hl 0 rfl) ?_
    refine lv_aload_n C.1 C.2.1 dX11_book_68 rfl (lv_at hl 3 rfl) ?_
    refine lv_aload_n C.1 C.2.1 dX11_book_69 rfl (lv_at hl 1 rfl) ?_
    refine lv_aload_n C.1 C.2.1 dX11_book_70 rfl (lv_at hl 3 rfl) ?_
    replace h := ob h; obtain ⟨x8, ex8, h⟩ := h
    refine sx_callV (As := [.ref a2]) (rest := [.ref a2, .long x4, .int x7, .ref a0]) C hs (c_X11_modeOf ex8) mo_X11_modeOf q1079 i1 rfl rfl hl.1 ⟨⟨(Nat.le_of_ble_eq_true rfl), (Nat.le_of_ble_eq_true rfl)⟩, (Nat.le_of_ble_eq_true rfl), (Nat.le_of_ble_eq_true rfl)⟩ rfl (Nat.le_of_ble_eq_true rfl) dX11_book_71 (fun H locs hs => ?_)
    refine W.eq (g2 := F0 m 74 ls [.int x8, .ref a2, .long x4, .int x7, .ref a0]) rfl ?_
    replace h := ob h; obtain ⟨u10, ex9, h⟩ := h
    rcases u10 with j11 | x9
    · replace h := bsl h
      cases h
      refine sx_xcallV (As := [.int x8]) (rest := [.long x4, .int x7, .ref a0]) C hs (c_X2_taxSum hfl ex9) mo_X2_taxSum q1116 i3 rfl rfl hl.1 ⟨⟨(Nat.le_of_ble_eq_true rfl), (Nat.le_of_ble_eq_true rfl)⟩, (Nat.le_of_ble_eq_true rfl), (Nat.le_of_ble_eq_true rfl)⟩ rfl (Nat.le_of_ble_eq_true rfl) dX11_book_74 (fun k9 hk9 ce q9 H locs a1 a2 a3 a4 a5 a6 => ?_) (fun vr hv => (inlr hv).elim)
      obtain rfl := Sum.inl.inj hk9
      exact sx_out C ht a1 a2 a3 a4 a5 a6 (Nat.le_of_ble_eq_true rfl) (Nat.le_of_ble_eq_true rfl)
    · replace h := bsr h
      refine sx_xcallV (As := [.int x8]) (rest := [.long x4, .int x7, .ref a0]) C hs (c_X2_taxSum hfl ex9) mo_X2_taxSum q1116 i3 rfl rfl hl.1 ⟨⟨(Nat.le_of_ble_eq_true rfl), (Nat.le_of_ble_eq_true rfl)⟩, (Nat.le_of_ble_eq_true rfl), (Nat.le_of_ble_eq_true rfl)⟩ rfl (Nat.le_of_ble_eq_true rfl) dX11_book_74 (fun k9 hk9 => (inrl hk9).elim) (fun vr hv H locs hs => ?_)
      obtain rfl := Sum.inr.inj hv
      refine W.eq (g2 := F0 m 77 ls [.long x9, .long x4, .int x7, .ref a0]) rfl ?_
      refine W.widen (k := 0) (n := 0) (Nat.le_of_ble_eq_true rfl) (Nat.le_of_ble_eq_true rfl) ?_
      refine lv_ladd C.1 C.2.1 dX11_book_77 ?_
      replace h := ob3 h; obtain ⟨u15, τ13, y14, ex12, h⟩ := h
      rcases u15 with j16 | x12
      · replace h := bsl h
        cases h
        refine sx_xcallV (As := [.int x7, .long (x4 + x9)]) (rest := []) C hs (c_X11_atHome hfl ex12) mo_X11_atHome q1285 i1 rfl rfl hl.1 ⟨⟨(Nat.le_of_ble_eq_true rfl), (Nat.le_of_ble_eq_true rfl)⟩, (Nat.le_of_ble_eq_true rfl), (Nat.le_of_ble_eq_true rfl)⟩ rfl (Nat.le_of_ble_eq_true rfl) dX11_book_78 (fun k9 hk9 ce q9 H locs a1 a2 a3 a4 a5 a6 => ?_) (fun vr hv => (inlr hv).elim)
        obtain rfl := Sum.inl.inj hk9
        exact sx_out C ht a1 a2 a3 a4 a5 a6 (Nat.le_of_ble_eq_true rfl) (Nat.le_of_ble_eq_true rfl)
      · replace h := bsr h
        refine sx_xcallV (As := [.int x7, .long (x4 + x9)]) (rest := []) C hs (c_X11_atHome hfl ex12) mo_X11_atHome q1285 i1 rfl rfl hl.1 ⟨⟨(Nat.le_of_ble_eq_true rfl), (Nat.le_of_ble_eq_true rfl)⟩, (Nat.le_of_ble_eq_true rfl), (Nat.le_of_ble_eq_true rfl)⟩ rfl (Nat.le_of_ble_eq_true rfl) dX11_book_78 (fun k9 hk9 => (inrl hk9).elim) (fun vr hv H locs hs => ?_)
        obtain rfl := Sum.inr.inj hv
        refine W.eq (g2 := F0 m 81 ls [.long x12]) rfl ?_
        refine W.widen (k := 2) (n := 8) (Nat.le_of_ble_eq_true rfl) (Nat.le_of_ble_eq_true rfl) ?_
        refine lv_lstore (lv' := [(5, .long x12), (3, .long x4), (0, .ref a0), (1, .int v1), (2, .ref a2)]) C.1 C.2.1 dX11_book_81 hl (by decide) rfl (fun ls hl => ?_)
        refine lv_aload_n C.1 C.2.1 dX11_book_83 rfl (lv_at hl 2 rfl) ?_
        refine lv_aload_n C.1 C.2.1 dX11_book_84 rfl (lv_at hl 4 rfl) ?_
        replace h := ob h; obtain ⟨x17, ex17, h⟩ := h
        refine sx_getV C hs fo_X11_345 (gI_v ex17) dX11_book_85 ?_
        refine lv_lload_n C.1 C.2.1 dX11_book_88 rfl (lv_at hl 1 rfl) ?_
        replace h := ob h; obtain ⟨⟨⟩, i18, h⟩ := h
        replace h := ob3 h; obtain ⟨u22, τ20, y21, ex19, h⟩ := h
        rcases u22 with j23 | x19
        · replace h := bsl h
          cases h
          refine sx_xcallV (As := [.int x17, .long x4]) (rest := []) C hs (c_X11_atHome hfl ex19) mo_X11_atHome q1285 i18 rfl rfl hl.1 ⟨⟨(Nat.le_of_ble_eq_true rfl), (Nat.le_of_ble_eq_true rfl)⟩, (Nat.le_of_ble_eq_true rfl), (Nat.le_of_ble_eq_true rfl)⟩ rfl (Nat.le_of_ble_eq_true rfl) dX11_book_89 (fun k9 hk9 ce q9 H locs a1 a2 a3 a4 a5 a6 => ?_) (fun vr hv => (inlr hv).elim)
          obtain rfl := Sum.inl.inj hk9
          exact sx_out C ht a1 a2 a3 a4 a5 a6 (Nat.le_of_ble_eq_true rfl) (Nat.le_of_ble_eq_true rfl)
        · replace h := bsr h
          refine sx_xcallV (As := [.int x17, .long x4]) (rest := []) C hs (c_X11_atHome hfl ex19) mo_X11_atHome q1285 i18 rfl rfl hl.1 ⟨⟨(Nat.le_of_ble_eq_true rfl), (Nat.le_of_ble_eq_true rfl)⟩, (Nat.le_of_ble_eq_true rfl), (Nat.le_of_ble_eq_true rfl)⟩ rfl (Nat.le_of_ble_eq_true rfl) dX11_book_89 (fun k9 hk9 => (inrl hk9).elim) (fun vr hv H locs hs => ?_)
          obtain rfl := Sum.inr.inj hv
          refine W.eq (g2 := F0 m 92 ls [.long x19]) rfl ?_
          refine W.widen (k := 4) (n := 16) (Nat.le_of_ble_eq_true rfl) (Nat.le_of_ble_eq_true rfl) ?_
          refine lv_lstore_n (lv' := [(3, .long x19), (5, .long x12), (0, .ref a0), (1, .int v1), (2, .ref a2)]) C.1 C.2.1 dX11_book_92 rfl hl (by decide) rfl (fun ls hl => ?_)
          refine lv_lload_n C.1 C.2.1 dX11_book_93 rfl (lv_at hl 0 rfl) ?_
          refine lv_ldc2 (v := 1000000000000) C.1 C.2.1 C.2.2.2.1 (C.2.2.2.2.1.1 _ q876 _) dX11_book_94 ?_
          refine W.lcmp C.1 C.2.1 dX11_book_97 ?_
          refine lv_if_gt (tgt := 110) C.1 C.2.1 dX11_book_98 (by decide) (fun c24 => ?_) (fun c24 => ?_)
          · replace h := ip ((lg_cmp_gt _ _).mp c24) h
            cases h
            exact sx_throwW C hfl hs to_X11_239_439 ht hl.1 dX11_book_110 dX11_book_113 dX11_book_114 dX11_book_117 dX11_book_120 ⟨by decide, (Nat.le_of_ble_eq_true rfl), (Nat.le_of_ble_eq_true rfl), (Nat.le_of_ble_eq_true rfl)⟩ ⟨(Nat.le_of_ble_eq_true rfl), (Nat.le_of_ble_eq_true rfl)⟩
          · replace h := iN (fun q => c24 ((lg_cmp_gt _ _).mpr q)) h
            refine lv_lload C.1 C.2.1 dX11_book_101 (lv_at hl 1 rfl) ?_
            refine lv_ldc2 (v := 1000000000000) C.1 C.2.1 C.2.2.2.1 (C.2.2.2.2.1.1 _ q876 _) dX11_book_103 ?_
            refine W.lcmp C.1 C.2.1 dX11_book_106 ?_
            refine lv_if_le (tgt := 121) C.1 C.2.1 dX11_book_107 (by decide) (fun c25 => ?_) (fun c25 => ?_)
            · replace h := ip ((lg_cmp_le _ _).mp c25) h
              refine lv_lload C.1 C.2.1 dX11_book_121 (lv_at hl 1 rfl) ?_
              refine lv_lload_n C.1 C.2.1 dX11_book_123 rfl (lv_at hl 0 rfl) ?_
              refine lv_lsub C.1 C.2.1 dX11_book_124 ?_
              replace h := ol h; obtain ⟨x26, ex26, h⟩ := h
              refine sx_nmL ex26 ?_
              refine lv_lstore (lv' := [(7, .long x26), (3, .long x19), (5, .long x12), (0, .ref a0), (1, .int v1), (2, .ref a2)]) C.1 C.2.1 dX11_book_125 hl (by decide) rfl (fun ls hl => ?_)
              refine lv_aload_n C.1 C.2.1 dX11_book_127 rfl (lv_at hl 3 rfl) ?_
              refine lv_lload_n C.1 C.2.1 dX11_book_128 rfl (lv_at hl 1 rfl) ?_
              refine lv_lconst (v := 0) C.1 C.2.1 dX11_book_129 (by decide) ?_
              refine W.lcmp C.1 C.2.1 dX11_book_130 ?_
              refine lv_if_le (tgt := 138) C.1 C.2.1 dX11_book_131 (by decide) (fun c27 => ?_) (fun c27 => ?_)
              · replace h := ip ((lg_cmp_le _ _).mp c27) h
                refine lv_iconst (v := 0) C.1 C.2.1 dX11_book_138 (by decide) ?_
                exact t_X11_book_139 hfl C hr ht h hs (lv_sub hl [3, 4, 5, 1, 0] rfl)
              · replace h := iN (fun q => c27 ((lg_cmp_le _ _).mpr q)) h
                refine lv_iconst (v := 1) C.1 C.2.1 dX11_book_134 (by decide) ?_
                refine lv_goto (tgt := 139) C.1 C.2.1 dX11_book_135 (by decide) ?_
                exact t_X11_book_139 hfl C hr ht h hs (lv_sub hl [3, 4, 5, 1, 0] rfl)
            · replace h := iN (fun q => c25 ((lg_cmp_le _ _).mpr q)) h
              cases h
              exact sx_throwW C hfl hs to_X11_239_439 ht hl.1 dX11_book_110 dX11_book_113 dX11_book_114 dX11_book_117 dX11_book_120 ⟨by decide, (Nat.le_of_ble_eq_true rfl), (Nat.le_of_ble_eq_true rfl), (Nat.le_of_ble_eq_true rfl)⟩ ⟨(Nat.le_of_ble_eq_true rfl), (Nat.le_of_ble_eq_true rfl)⟩
set_option maxHeartbeats 4000000 in
set_option maxRecDepth 100000 in
theorem c_X11_book {l : Launch} (hfl : l.stackTraces = false) {g : PP} {N : Nat} {σ : Sto} {sz : Nat} {a0 : Nat} {v1 : Int32} {r9 : Nat ⊕ Int32} {σ9 : Sto} {sz9 : Nat} (h : f_X11_book N σ sz a0 v1 = some (r9, σ9, sz9)) : vx_Met l yX11_book [Cond.code yX11_book cX11_book 9 (some .int)] (rmk 13 5 22 269) (Pre g σ sz [.ref a0, .int v1]) (PstX g (Sum.map id vI r9) σ9 sz9) (XpX g (Sum.map id vI r9) σ9 sz9) 5 22 (Aw g) := by
  refine vx_ofW (cc := cX11_book) (maxL := 9) (ret := (some .int)) (by decide) rfl ?_
  intro p e s m args below meth c s₁ B hml ht hv
  obtain ⟨rfl, C, hs⟩ := ctx_of B hml hv
  have C : Cx g p s m meth c cX11_book 9 "Tillhouse" := C
  have hr := B.returns
  have hl := lv_entry ([.ref a0, .int v1]) (n := 9) (Nat.le_of_ble_eq_true rfl)
  rw [lg_entry_eq]
  generalize (lg_sl ([.ref a0, .int v1]) ++ List.replicate (9 - (lg_sl ([.ref a0, .int v1])).length) Slot.unset).toArray = ls at hl ⊢
  have hl : lv_has ls 9 [(0, .ref a0), (1, .int v1)] := hl
  unfold f_X11_book at h
  refine lv_aload_n C.1 C.2.1 dX11_book_0 rfl (lv_at hl 0 rfl) ?_
  refine lv_iload_n C.1 C.2.1 dX11_book_1 rfl (lv_at hl 1 rfl) ?_
  replace h := ob h; obtain ⟨⟨⟩, i1, h⟩ := h
  replace h := ob h; obtain ⟨u3, ep2, h⟩ := h
  rcases u3 with j4 | p2
  · replace h := bsl h
    cases h
    refine sx_xcallV (As := [.int v1]) (rest := []) C hs (c_X11_invoiceAt hfl ep2) mo_X11_invoiceAt q1036 i1 rfl rfl hl.1 ⟨⟨(Nat.le_of_ble_eq_true rfl), (Nat.le_of_ble_eq_true rfl)⟩, (Nat.le_of_ble_eq_true rfl), (Nat.le_of_ble_eq_true rfl)⟩ rfl (Nat.le_of_ble_eq_true rfl) dX11_book_2 (fun k9 hk9 ce q9 H locs a1 a2 a3 a4 a5 a6 => ?_) (fun vr hv => (inlr hv).elim)
    obtain rfl := Sum.inl.inj hk9
    exact sx_out C ht a1 a2 a3 a4 a5 a6 (Nat.le_of_ble_eq_true rfl) (Nat.le_of_ble_eq_true rfl)
  · replace h := bsr h
    refine sx_xcallV (As := [.int v1]) (rest := []) C hs (c_X11_invoiceAt hfl ep2) mo_X11_invoiceAt q1036 i1 rfl rfl hl.1 ⟨⟨(Nat.le_of_ble_eq_true rfl), (Nat.le_of_ble_eq_true rfl)⟩, (Nat.le_of_ble_eq_true rfl), (Nat.le_of_ble_eq_true rfl)⟩ rfl (Nat.le_of_ble_eq_true rfl) dX11_book_2 (fun k9 hk9 => (inrl hk9).elim) (fun vr hv H locs hs => ?_)
    obtain rfl := Sum.inr.inj hv
    refine W.eq (g2 := F0 m 5 ls [.ref p2]) rfl ?_
    refine W.widen (k := 0) (n := 0) (Nat.le_of_ble_eq_true rfl) (Nat.le_of_ble_eq_true rfl) ?_
    refine lv_astore_n (lv' := [(2, .ref p2), (0, .ref a0), (1, .int v1)]) C.1 C.2.1 dX11_book_5 rfl hl (by decide) rfl (fun ls hl => ?_)
    refine lv_aload_n C.1 C.2.1 dX11_book_6 rfl (lv_at hl 1 rfl) ?_
    replace h := ob h; obtain ⟨p5, ep5, h⟩ := h
    refine sx_getV C hs fo_X11_67 (gR_v ep5) dX11_book_7 ?_
    refine lv_iload_n C.1 C.2.1 dX11_book_10 rfl (lv_at hl 2 rfl) ?_
    replace h := ob h; obtain ⟨⟨⟩, i6, h⟩ := h
    replace h := ob h; obtain ⟨x7, ex7, h⟩ := h
    refine sx_callV (As := [.int v1]) (rest := []) C hs (c_X3_hasBooking ex7) mo_X3_hasBooking q1042 i6 rfl rfl hl.1 ⟨⟨(Nat.le_of_ble_eq_true rfl), (Nat.le_of_ble_eq_true rfl)⟩, (Nat.le_of_ble_eq_true rfl), (Nat.le_of_ble_eq_true rfl)⟩ rfl (Nat.le_of_ble_eq_true rfl) dX11_book_11 (fun H locs hs => ?_)
    refine W.eq (g2 := F0 m 14 ls [.int x7]) rfl ?_
    refine lv_if_eq (tgt := 28) C.1 C.2.1 dX11_book_14 (by decide) (fun c8 => ?_) (fun c8 => ?_)
    · replace h := ip c8 h
      refine lv_aload_n C.1 C.2.1 dX11_book_28 rfl (lv_at hl 1 rfl) ?_
      refine lv_aload_n C.1 C.2.1 dX11_book_29 rfl (lv_at hl 0 rfl) ?_
      replace h := ob h; obtain ⟨x9, ex9, h⟩ := h
      refine sx_getV C hs fo_X11_320 (gI_v ex9) dX11_book_30 ?_
      replace h := ob h; obtain ⟨u11, ex10, h⟩ := h
      rcases u11 with j12 | x10
      · replace h := bsl h
        cases h
        refine sx_xcallV (As := [.int x9]) (rest := []) C hs (c_X11_checkNotShut hfl ex10) mo_X11_checkNotShut q1252 i1 rfl rfl hl.1 ⟨⟨(Nat.le_of_ble_eq_true rfl), (Nat.le_of_ble_eq_true rfl)⟩, (Nat.le_of_ble_eq_true rfl), (Nat.le_of_ble_eq_true rfl)⟩ rfl (Nat.le_of_ble_eq_true rfl) dX11_book_33 (fun k9 hk9 ce q9 H locs a1 a2 a3 a4 a5 a6 => ?_) (fun vr hv => (inlr hv).elim)
        obtain rfl := Sum.inl.inj hk9
        exact sx_out C ht a1 a2 a3 a4 a5 a6 (Nat.le_of_ble_eq_true rfl) (Nat.le_of_ble_eq_true rfl)
      · replace h := bsr h
        refine sx_xcallV (As := [.int x9]) (rest := []) C hs (c_X11_checkNotShut hfl ex10) mo_X11_checkNotShut q1252 i1 rfl rfl hl.1 ⟨⟨(Nat.le_of_ble_eq_true rfl), (Nat.le_of_ble_eq_true rfl)⟩, (Nat.le_of_ble_eq_true rfl), (Nat.le_of_ble_eq_true rfl)⟩ rfl (Nat.le_of_ble_eq_true rfl) dX11_book_33 (fun k9 hk9 => (inrl hk9).elim) (fun vr hv H locs hs => ?_)
        obtain rfl := Sum.inr.inj hv
        refine W.eq (g2 := F0 m 36 ls []) rfl ?_
        refine W.widen (k := 0) (n := 0) (Nat.le_of_ble_eq_true rfl) (Nat.le_of_ble_eq_true rfl) ?_
        refine lv_aload_n C.1 C.2.1 dX11_book_36 rfl (lv_at hl 0 rfl) ?_
        replace h := ob h; obtain ⟨x13, ex13, h⟩ := h
        refine sx_getV C hs fo_X11_345 (gI_v ex13) dX11_book_37 ?_
        refine lv_if_eq (tgt := 52) C.1 C.2.1 dX11_book_40 (by decide) (fun c14 => ?_) (fun c14 => ?_)
        · replace h := ip c14 h
          exact t_X11_book_52 hfl C hr ht h hs (lv_sub hl [1, 2, 0] rfl)
        · replace h := iN c14 h
          refine lv_aload_n C.1 C.2.1 dX11_book_43 rfl (lv_at hl 1 rfl) ?_
          refine lv_aload_n C.1 C.2.1 dX11_book_44 rfl (lv_at hl 0 rfl) ?_
          replace h := ob h; obtain ⟨x15, ex15, h⟩ := h
          refine sx_getV C hs fo_X11_345 (gI_v ex15) dX11_book_45 ?_
          refine lv_iconst (v := 0) C.1 C.2.1 dX11_book_48 (by decide) ?_
          replace h := ob h; obtain ⟨u17, ex16, h⟩ := h
          rcases u17 with j18 | x16
          · replace h := bsl h
            cases h
            refine sx_xcallV (As := [.int x15, .int 0]) (rest := []) C hs (c_X11_checkRate hfl ex16) mo_X11_checkRate q928 i1 rfl rfl hl.1 ⟨⟨(Nat.le_of_ble_eq_true rfl), (Nat.le_of_ble_eq_true rfl)⟩, (Nat.le_of_ble_eq_true rfl), (Nat.le_of_ble_eq_true rfl)⟩ rfl (Nat.le_of_ble_eq_true rfl) dX11_book_49 (fun k9 hk9 ce q9 H locs a1 a2 a3 a4 a5 a6 => ?_) (fun vr hv => (inlr hv).elim)
            obtain rfl := Sum.inl.inj hk9
            exact sx_out C ht a1 a2 a3 a4 a5 a6 (Nat.le_of_ble_eq_true rfl) (Nat.le_of_ble_eq_true rfl)
          · replace h := bsr h
            refine sx_xcallV (As := [.int x15, .int 0]) (rest := []) C hs (c_X11_checkRate hfl ex16) mo_X11_checkRate q928 i1 rfl rfl hl.1 ⟨⟨(Nat.le_of_ble_eq_true rfl), (Nat.le_of_ble_eq_true rfl)⟩, (Nat.le_of_ble_eq_true rfl), (Nat.le_of_ble_eq_true rfl)⟩ rfl (Nat.le_of_ble_eq_true rfl) dX11_book_49 (fun k9 hk9 => (inrl hk9).elim) (fun vr hv H locs hs => ?_)
            obtain rfl := Sum.inr.inj hv
            refine W.eq (g2 := F0 m 52 ls []) rfl ?_
            refine W.widen (k := 0) (n := 0) (Nat.le_of_ble_eq_true rfl) (Nat.le_of_ble_eq_true rfl) ?_
            exact t_X11_book_52 hfl C hr ht h hs (lv_sub hl [1, 2, 0] rfl)
    · replace h := iN c8 h
      cases h
      exact sx_throwW C hfl hs to_X11_312_314 ht hl.1 dX11_book_17 dX11_book_20 dX11_book_21 dX11_book_24 dX11_book_27 ⟨by decide, (Nat.le_of_ble_eq_true rfl), (Nat.le_of_ble_eq_true rfl), (Nat.le_of_ble_eq_true rfl)⟩ ⟨(Nat.le_of_ble_eq_true rfl), (Nat.le_of_ble_eq_true rfl)⟩
def f_X11_isBooked (N : Nat) (σ : Sto) (a0 : Nat) (v1 : Int32) : Option ((Nat ⊕ Int32)) :=
 (isO σ a0 10).bind fun _ =>
 (f_X11_invoiceAt σ a0 v1).bind fun u3 =>
 bs u3 (fun j4 => some (.inl j4)) fun p2 =>
 (gR σ a0 10 10).bind fun p5 =>
 (isO σ p5 3).bind fun _ =>
 (f_X3_hasBooking N σ p5 v1).bind fun x7 =>
 if okZ x7 = true then (
 some (.inr x7)) else none
set_option maxHeartbeats 4000000 in
set_option maxRecDepth 100000 in
theorem c_X11_isBooked {l : Launch} (hfl : l.stackTraces = false) {g : PP} {N : Nat} {σ : Sto} {sz : Nat} {a0 : Nat} {v1 : Int32} {r9 : Nat ⊕ Int32} (h : f_X11_isBooked N σ a0 v1 = some r9) : vx_Met l yX11_isBooked [Cond.code yX11_isBooked cX11_isBooked 2 (some .boolean)] (rmk 7 (cX r9) (cY r9) 121) (Pre g σ sz [.ref a0, .int v1]) (PstX g (Sum.map id vI r9) σ sz) (XpX g (Sum.map id vI r9) σ sz) (cX r9) (cY r9) (Aw g) := by
  refine vx_ofW (cc := cX11_isBooked) (maxL := 2) (ret := (some .boolean)) (by decide) rfl ?_
  intro p e s m args below meth c s₁ B hml ht hv
  obtain ⟨rfl, C, hs⟩ := ctx_of B hml hv
  have C : Cx g p s m meth c cX11_isBooked 2 "Tillhouse" := C
  have hr := B.returns
  have hl := lv_entry ([.ref a0, .int v1]) (n := 2) (Nat.le_of_ble_eq_true rfl)
  rw [lg_entry_eq]
  generalize (lg_sl ([.ref a0, .int v1]) ++ List.replicate (2 - (lg_sl ([.ref a0, .int v1])).length) Slot.unset).toArray = ls at hl ⊢
  have hl : lv_has ls 2 [(0, .ref a0), (1, .int v1)] := hl
  unfold f_X11_isBooked at h
  refine lv_aload_n C.1 C.2.1 dX11_isBooked_0 rfl (lv_at hl 0 rfl) ?_
  refine lv_iload_n C.1 C.2.1 dX11_isBooked_1 rfl (lv_at hl 1 rfl) ?_
  replace h := ob h; obtain ⟨⟨⟩, i1, h⟩ := h
  replace h := ob h; obtain ⟨u3, ep2, h⟩ := h
  rcases u3 with j4 | p2
  · replace h := bsl h
    cases h
    refine sx_xcallV (As := [.int v1]) (rest := []) C hs (c_X11_invoiceAt hfl ep2) mo_X11_invoiceAt q1036 i1 rfl rfl hl.1 ⟨⟨(Nat.le_of_ble_eq_true rfl), (Nat.le_of_ble_eq_true rfl)⟩, (Nat.le_of_ble_eq_true rfl), (Nat.le_of_ble_eq_true rfl)⟩ rfl (Nat.le_of_ble_eq_true rfl) dX11_isBooked_2 (fun k9 hk9 ce q9 H locs a1 a2 a3 a4 a5 a6 => ?_) (fun vr hv => (inlr hv).elim)
    obtain rfl := Sum.inl.inj hk9
    exact sx_out C ht a1 a2 a3 a4 a5 a6 (Nat.le_of_ble_eq_true rfl) (Nat.le_of_ble_eq_true rfl)
  · replace h := bsr h
    refine sx_xcallV (As := [.int v1]) (rest := []) C hs (c_X11_invoiceAt hfl ep2) mo_X11_invoiceAt q1036 i1 rfl rfl hl.1 ⟨⟨(Nat.le_of_ble_eq_true rfl), (Nat.le_of_ble_eq_true rfl)⟩, (Nat.le_of_ble_eq_true rfl), (Nat.le_of_ble_eq_true rfl)⟩ rfl (Nat.le_of_ble_eq_true rfl) dX11_isBooked_2 (fun k9 hk9 => (inrl hk9).elim) (fun vr hv H locs hs => ?_)
    obtain rfl := Sum.inr.inj hv
    refine W.eq (g2 := F0 m 5 ls [.ref p2]) rfl ?_
    refine W.widen (k := 0) (n := 0) (Nat.le_of_ble_eq_true rfl) (Nat.le_of_ble_eq_true rfl) ?_
    refine lv_pop C.1 C.2.1 dX11_isBooked_5 rfl ?_
    refine lv_aload_n C.1 C.2.1 dX11_isBooked_6 rfl (lv_at hl 0 rfl) ?_
    replace h := ob h; obtain ⟨p5, ep5, h⟩ := h
    refine sx_getV C hs fo_X11_67 (gR_v ep5) dX11_isBooked_7 ?_
    refine lv_iload_n C.1 C.2.1 dX11_isBooked_10 rfl (lv_at hl 1 rfl) ?_
    replace h := ob h; obtain ⟨⟨⟩, i6, h⟩ := h
    replace h := ob h; obtain ⟨x7, ex7, h⟩ := h
    refine sx_callV (As := [.int v1]) (rest := []) C hs (c_X3_hasBooking ex7) mo_X3_hasBooking q1042 i6 rfl rfl hl.1 ⟨⟨(Nat.le_of_ble_eq_true rfl), (Nat.le_of_ble_eq_true rfl)⟩, (Nat.le_of_ble_eq_true rfl), (Nat.le_of_ble_eq_true rfl)⟩ rfl (Nat.le_of_ble_eq_true rfl) dX11_isBooked_11 (fun H locs hs => ?_)
    refine W.eq (g2 := F0 m 14 ls [.int x7]) rfl ?_
    replace h := oi h; obtain ⟨n8, h⟩ := h
    cases h
    exact sx_iretX C hs hr (okZ_n n8).1 dX11_isBooked_14
def f_X11_side (N : Nat) (σ : Sto) (a0 : Nat) (v1 : Int32) (v2 : Int32) (v3 : Int32) : Option ((Nat ⊕ Int64)) :=
 (f_X11_checkAccount v1).bind fun u2 =>
 bs u2 (fun j3 => some (.inl j3)) fun x1 =>
 (f_X11_checkAccount v2).bind fun u5 =>
 bs u5 (fun j6 => some (.inl j6)) fun x4 =>
 if v1 ≤ v2 then
 (gR σ a0 10 10).bind fun p8 =>
 (isO σ p8 3).bind fun _ =>
 (f_X3_sum N σ p8 v1 v2 v3).bind fun x10 =>
 some (.inr x10)
 else
 some (.inl 1)
set_option maxHeartbeats 4000000 in
set_option maxRecDepth 100000 in
theorem c_X11_side {l : Launch} (hfl : l.stackTraces = false) {g : PP} {N : Nat} {σ : Sto} {sz : Nat} {a0 : Nat} {v1 : Int32} {v2 : Int32} {v3 : Int32} {r9 : Nat ⊕ Int64} (h : f_X11_side N σ a0 v1 v2 v3 = some r9) : vx_Met l yX11_side [Cond.code yX11_side cX11_side 4 (some .long)] (rmk 7 (cX r9) (cY r9) 120) (Pre g σ sz [.ref a0, .int v1, .int v2, .int v3]) (PstX g (Sum.map id vL r9) σ sz) (XpX g (Sum.map id vL r9) σ sz) (cX r9) (cY r9) (Aw g) := by
  refine vx_ofW (cc := cX11_side) (maxL := 4) (ret := (some .long)) (by decide) rfl ?_
  intro p e s m args below meth c s₁ B hml ht hv
  obtain ⟨rfl, C, hs⟩ := ctx_of B hml hv
  have C : Cx g p s m meth c cX11_side 4 "Tillhouse" := C
  have hr := B.returns
  have hl := lv_entry ([.ref a0, .int v1, .int v2, .int v3]) (n := 4) (Nat.le_of_ble_eq_true rfl)
  rw [lg_entry_eq]
  generalize (lg_sl ([.ref a0, .int v1, .int v2, .int v3]) ++ List.replicate (4 - (lg_sl ([.ref a0, .int v1, .int v2, .int v3])).length) Slot.unset).toArray = ls at hl ⊢
  have hl : lv_has ls 4 [(0, .ref a0), (1, .int v1), (2, .int v2), (3, .int v3)] := hl
  unfold f_X11_side at h
  refine lv_iload_n C.1 C.2.1 dX11_side_0 rfl (lv_at hl 1 rfl) ?_
  replace h := ob h; obtain ⟨u2, ex1, h⟩ := h
  rcases u2 with j3 | x1
  · replace h := bsl h
    cases h
    refine sx_xcallS (As := [.int v1]) (rest := []) C hs (c_X11_checkAccount hfl ex1) mo_X11_checkAccount q1248 rfl hl.1 ⟨⟨(Nat.le_of_ble_eq_true rfl), (Nat.le_of_ble_eq_true rfl)⟩, (Nat.le_of_ble_eq_true rfl), (Nat.le_of_ble_eq_true rfl)⟩ rfl (Nat.le_of_ble_eq_true rfl) dX11_side_1 (fun k9 hk9 ce q9 H locs a1 a2 a3 a4 a5 a6 => ?_) (fun vr hv => (inlr hv).elim)
    obtain rfl := Sum.inl.inj hk9
    exact sx_out C ht a1 a2 a3 a4 a5 a6 (Nat.le_of_ble_eq_true rfl) (Nat.le_of_ble_eq_true rfl)
  · replace h := bsr h
    refine sx_xcallS (As := [.int v1]) (rest := []) C hs (c_X11_checkAccount hfl ex1) mo_X11_checkAccount q1248 rfl hl.1 ⟨⟨(Nat.le_of_ble_eq_true rfl), (Nat.le_of_ble_eq_true rfl)⟩, (Nat.le_of_ble_eq_true rfl), (Nat.le_of_ble_eq_true rfl)⟩ rfl (Nat.le_of_ble_eq_true rfl) dX11_side_1 (fun k9 hk9 => (inrl hk9).elim) (fun vr hv H locs hs => ?_)
    obtain rfl := Sum.inr.inj hv
    refine W.eq (g2 := F0 m 4 ls []) rfl ?_
    refine W.widen (k := 0) (n := 0) (Nat.le_of_ble_eq_true rfl) (Nat.le_of_ble_eq_true rfl) ?_
    refine lv_iload_n C.1 C.2.1 dX11_side_4 rfl (lv_at hl 2 rfl) ?_
    replace h := ob h; obtain ⟨u5, ex4, h⟩ := h
    rcases u5 with j6 | x4
    · replace h := bsl h
      cases h
      refine sx_xcallS (As := [.int v2]) (rest := []) C hs (c_X11_checkAccount hfl ex4) mo_X11_checkAccount q1248 rfl hl.1 ⟨⟨(Nat.le_of_ble_eq_true rfl), (Nat.le_of_ble_eq_true rfl)⟩, (Nat.le_of_ble_eq_true rfl), (Nat.le_of_ble_eq_true rfl)⟩ rfl (Nat.le_of_ble_eq_true rfl) dX11_side_5 (fun k9 hk9 ce q9 H locs a1 a2 a3 a4 a5 a6 => ?_) (fun vr hv => (inlr hv).elim)
      obtain rfl := Sum.inl.inj hk9
      exact sx_out C ht a1 a2 a3 a4 a5 a6 (Nat.le_of_ble_eq_true rfl) (Nat.le_of_ble_eq_true rfl)
    · replace h := bsr h
      refine sx_xcallS (As := [.int v2]) (rest := []) C hs (c_X11_checkAccount hfl ex4) mo_X11_checkAccount q1248 rfl hl.1 ⟨⟨(Nat.le_of_ble_eq_true rfl), (Nat.le_of_ble_eq_true rfl)⟩, (Nat.le_of_ble_eq_true rfl), (Nat.le_of_ble_eq_true rfl)⟩ rfl (Nat.le_of_ble_eq_true rfl) dX11_side_5 (fun k9 hk9 => (inrl hk9).elim) (fun vr hv H locs hs => ?_)
      obtain rfl := Sum.inr.inj hv
      refine W.eq (g2 := F0 m 8 ls []) rfl ?_
      refine W.widen (k := 0) (n := 0) (Nat.le_of_ble_eq_true rfl) (Nat.le_of_ble_eq_true rfl) ?_
      refine lv_iload_n C.1 C.2.1 dX11_side_8 rfl (lv_at hl 2 rfl) ?_
      refine lv_iload_n C.1 C.2.1 dX11_side_9 rfl (lv_at hl 1 rfl) ?_
      refine lv_icmp_ge (tgt := 24) C.1 C.2.1 dX11_side_10 (by decide) (fun c7 => ?_) (fun c7 => ?_)
      · replace h := ip c7 h
        refine lv_aload_n C.1 C.2.1 dX11_side_24 rfl (lv_at hl 0 rfl) ?_
        replace h := ob h; obtain ⟨p8, ep8, h⟩ := h
        refine sx_getV C hs fo_X11_67 (gR_v ep8) dX11_side_25 ?_
        refine lv_iload_n C.1 C.2.1 dX11_side_28 rfl (lv_at hl 1 rfl) ?_
        refine lv_iload_n C.1 C.2.1 dX11_side_29 rfl (lv_at hl 2 rfl) ?_
        refine lv_iload_n C.1 C.2.1 dX11_side_30 rfl (lv_at hl 3 rfl) ?_
        replace h := ob h; obtain ⟨⟨⟩, i9, h⟩ := h
        replace h := ob h; obtain ⟨x10, ex10, h⟩ := h
        refine sx_callV (As := [.int v1, .int v2, .int v3]) (rest := []) C hs (c_X3_sum ex10) mo_X3_sum q1305 i9 rfl rfl hl.1 ⟨⟨(Nat.le_of_ble_eq_true rfl), (Nat.le_of_ble_eq_true rfl)⟩, (Nat.le_of_ble_eq_true rfl), (Nat.le_of_ble_eq_true rfl)⟩ rfl (Nat.le_of_ble_eq_true rfl) dX11_side_31 (fun H locs hs => ?_)
        refine W.eq (g2 := F0 m 34 ls [.long x10]) rfl ?_
        cases h
        exact sx_lretX C hs hr dX11_side_34
      · replace h := iN c7 h
        cases h
        exact sx_throwW C hfl hs to_X11_81_442 ht hl.1 dX11_side_13 dX11_side_16 dX11_side_17 dX11_side_20 dX11_side_23 ⟨by decide, (Nat.le_of_ble_eq_true rfl), (Nat.le_of_ble_eq_true rfl), (Nat.le_of_ble_eq_true rfl)⟩ ⟨(Nat.le_of_ble_eq_true rfl), (Nat.le_of_ble_eq_true rfl)⟩
def f_X11_nextAccount (N : Nat) (σ : Sto) (a0 : Nat) (v1 : Int32) : Option ((Nat ⊕ Int32)) :=
 (gR σ a0 10 10).bind fun p1 =>
 (isO σ p1 3).bind fun _ =>
 (f_X3_leastAbove N σ p1 v1).bind fun x3 =>
 if x3 = 100 then
 some (.inl 2)
 else
 some (.inr x3)
set_option maxHeartbeats 4000000 in
set_option maxRecDepth 100000 in
theorem c_X11_nextAccount {l : Launch} (hfl : l.stackTraces = false) {g : PP} {N : Nat} {σ : Sto} {sz : Nat} {a0 : Nat} {v1 : Int32} {r9 : Nat ⊕ Int32} (h : f_X11_nextAccount N σ a0 v1 = some r9) : vx_Met l yX11_nextAccount [Cond.code yX11_nextAccount cX11_nextAccount 3 (some .int)] (rmk 6 (cX r9) (cY r9) 100) (Pre g σ sz [.ref a0, .int v1]) (PstX g (Sum.map id vI r9) σ sz) (XpX g (Sum.map id vI r9) σ sz) (cX r9) (cY r9) (Aw g) := by
  refine vx_ofW (cc := cX11_nextAccount) (maxL := 3) (ret := (some .int)) (by decide) rfl ?_
  intro p e s m args below meth c s₁ B hml ht hv
  obtain ⟨rfl, C, hs⟩ := ctx_of B hml hv
  have C : Cx g p s m meth c cX11_nextAccount 3 "Tillhouse" := C
  have hr := B.returns
  have hl := lv_entry ([.ref a0, .int v1]) (n := 3) (Nat.le_of_ble_eq_true rfl)
  rw [lg_entry_eq]
  generalize (lg_sl ([.ref a0, .int v1]) ++ List.replicate (3 - (lg_sl ([.ref a0, .int v1])).length) Slot.unset).toArray = ls at hl ⊢
  have hl : lv_has ls 3 [(0, .ref a0), (1, .int v1)] := hl
  unfold f_X11_nextAccount at h
  refine lv_aload_n C.1 C.2.1 dX11_nextAccount_0 rfl (lv_at hl 0 rfl) ?_
  replace h := ob h; obtain ⟨p1, ep1, h⟩ := h
  refine sx_getV C hs fo_X11_67 (gR_v ep1) dX11_nextAccount_1 ?_
  refine lv_iload_n C.1 C.2.1 dX11_nextAccount_4 rfl (lv_at hl 1 rfl) ?_
  replace h := ob h; obtain ⟨⟨⟩, i2, h⟩ := h
  replace h := ob h; obtain ⟨x3, ex3, h⟩ := h
  refine sx_callV (As := [.int v1]) (rest := []) C hs (c_X3_leastAbove ex3) mo_X3_leastAbove q1313 i2 rfl rfl hl.1 ⟨⟨(Nat.le_of_ble_eq_true rfl), (Nat.le_of_ble_eq_true rfl)⟩, (Nat.le_of_ble_eq_true rfl), (Nat.le_of_ble_eq_true rfl)⟩ rfl (Nat.le_of_ble_eq_true rfl) dX11_nextAccount_5 (fun H locs hs => ?_)
  refine W.eq (g2 := F0 m 8 ls [.int x3]) rfl ?_
  refine lv_istore_n (lv' := [(2, .int x3), (0, .ref a0), (1, .int v1)]) C.1 C.2.1 dX11_nextAccount_8 rfl hl (by decide) rfl (fun ls hl => ?_)
  refine lv_iload_n C.1 C.2.1 dX11_nextAccount_9 rfl (lv_at hl 0 rfl) ?_
  refine lv_bipush (v := 100) C.1 C.2.1 dX11_nextAccount_10 (by decide) ?_
  refine lv_icmp_ne (tgt := 26) C.1 C.2.1 dX11_nextAccount_12 (by decide) (fun c4 => ?_) (fun c4 => ?_)
  · replace h := iN c4 h
    refine lv_iload_n C.1 C.2.1 dX11_nextAccount_26 rfl (lv_at hl 0 rfl) ?_
    cases h
    exact sx_iretX C hs hr rfl dX11_nextAccount_27
  · replace h := ip c4 h
    cases h
    exact sx_throwNW C hfl hs to_X11_210_451 ht hl.1 dX11_nextAccount_15 dX11_nextAccount_18 dX11_nextAccount_19 dX11_nextAccount_22 dX11_nextAccount_25 ⟨by decide, (Nat.le_of_ble_eq_true rfl), (Nat.le_of_ble_eq_true rfl), (Nat.le_of_ble_eq_true rfl)⟩ ⟨(Nat.le_of_ble_eq_true rfl), (Nat.le_of_ble_eq_true rfl)⟩
def f_X11_shut (N : Nat) (σ : Sto) (a0 : Nat) (v1 : Int32) : Option ((Nat ⊕ Int32) × Sto) :=
 (f_X11_checkRange (Int32.toInt64 v1) 0 9999).bind fun u2 =>
 bs u2 (fun j3 => some (.inl j3, σ)) fun x1 =>
 (isO σ a0 10).bind fun _ =>
 (f_X11_checkNotShut σ a0 v1).bind fun u6 =>
 bs u6 (fun j7 => some (.inl j7, σ)) fun x5 =>
 (gR σ a0 10 10).bind fun p8 =>
 (isO σ p8 3).bind fun _ =>
 b2 (f_X3_shutUpTo N σ p8 v1) fun x10 τ11 =>
 some (.inr x10, τ11)
set_option maxHeartbeats 4000000 in
set_option maxRecDepth 100000 in
theorem c_X11_shut {l : Launch} (hfl : l.stackTraces = false) {g : PP} {N : Nat} {σ : Sto} {sz : Nat} {a0 : Nat} {v1 : Int32} {r9 : Nat ⊕ Int32} {σ9 : Sto} (h : f_X11_shut N σ a0 v1 = some (r9, σ9)) : vx_Met l yX11_shut [Cond.code yX11_shut cX11_shut 2 (some .int)] (rmk 7 (cX r9) (cY r9) 125) (Pre g σ sz [.ref a0, .int v1]) (PstX g (Sum.map id vI r9) σ9 sz) (XpX g (Sum.map id vI r9) σ9 sz) (cX r9) (cY r9) (Aw g) := by
  refine vx_ofW (cc := cX11_shut) (maxL := 2) (ret := (some .int)) (by decide) rfl ?_
  intro p e s m args below meth c s₁ B hml ht hv
  obtain ⟨rfl, C, hs⟩ := ctx_of B hml hv
  have C : Cx g p s m meth c cX11_shut 2 "Tillhouse" := C
  have hr := B.returns
  have hl := lv_entry ([.ref a0, .int v1]) (n := 2) (Nat.le_of_ble_eq_true rfl)
  rw [lg_entry_eq]
  generalize (lg_sl ([.ref a0, .int v1]) ++ List.replicate (2 - (lg_sl ([.ref a0, .int v1])).length) Slot.unset).toArray = ls at hl ⊢
  have hl : lv_has ls 2 [(0, .ref a0), (1, .int v1)] := hl
  unfold f_X11_shut at h
  refine lv_iload_n C.1 C.2.1 dX11_shut_0 rfl (lv_at hl 1 rfl) ?_
  refine lv_i2l (v := Int32.toInt64 v1) C.1 C.2.1 dX11_shut_1 rfl ?_
  refine lv_lconst (v := 0) C.1 C.2.1 dX11_shut_2 (by decide) ?_
  refine lv_ldc2 (v := 9999) C.1 C.2.1 C.2.2.2.1 (C.2.2.2.2.1.1 _ q943 _) dX11_shut_3 ?_
  replace h := ob h; obtain ⟨u2, ex1, h⟩ := h
  rcases u2 with j3 | x1
  · replace h := bsl h
    cases h
    refine sx_xcallS (As := [.long (Int32.toInt64 v1), .long 0, .long 9999]) (rest := []) C hs (c_X11_checkRange hfl ex1) mo_X11_checkRange q842 rfl hl.1 ⟨⟨(Nat.le_of_ble_eq_true rfl), (Nat.le_of_ble_eq_true rfl)⟩, (Nat.le_of_ble_eq_true rfl), (Nat.le_of_ble_eq_true rfl)⟩ rfl (Nat.le_of_ble_eq_true rfl) dX11_shut_6 (fun k9 hk9 ce q9 H locs a1 a2 a3 a4 a5 a6 => ?_) (fun vr hv => (inlr hv).elim)
    obtain rfl := Sum.inl.inj hk9
    exact sx_out C ht a1 a2 a3 a4 a5 a6 (Nat.le_of_ble_eq_true rfl) (Nat.le_of_ble_eq_true rfl)
  · replace h := bsr h
    refine sx_xcallS (As := [.long (Int32.toInt64 v1), .long 0, .long 9999]) (rest := []) C hs (c_X11_checkRange hfl ex1) mo_X11_checkRange q842 rfl hl.1 ⟨⟨(Nat.le_of_ble_eq_true rfl), (Nat.le_of_ble_eq_true rfl)⟩, (Nat.le_of_ble_eq_true rfl), (Nat.le_of_ble_eq_true rfl)⟩ rfl (Nat.le_of_ble_eq_true rfl) dX11_shut_6 (fun k9 hk9 => (inrl hk9).elim) (fun vr hv H locs hs => ?_)
    obtain rfl := Sum.inr.inj hv
    refine W.eq (g2 := F0 m 9 ls []) rfl ?_
    refine W.widen (k := 0) (n := 0) (Nat.le_of_ble_eq_true rfl) (Nat.le_of_ble_eq_true rfl) ?_
    refine lv_aload_n C.1 C.2.1 dX11_shut_9 rfl (lv_at hl 0 rfl) ?_
    refine lv_iload_n C.1 C.2.1 dX11_shut_10 rfl (lv_at hl 1 rfl) ?_
    replace h := ob h; obtain ⟨⟨⟩, i4, h⟩ := h
    replace h := ob h; obtain ⟨u6, ex5, h⟩ := h
    rcases u6 with j7 | x5
    · replace h := bsl h
      cases h
      refine sx_xcallV (As := [.int v1]) (rest := []) C hs (c_X11_checkNotShut hfl ex5) mo_X11_checkNotShut q1252 i4 rfl rfl hl.1 ⟨⟨(Nat.le_of_ble_eq_true rfl), (Nat.le_of_ble_eq_true rfl)⟩, (Nat.le_of_ble_eq_true rfl), (Nat.le_of_ble_eq_true rfl)⟩ rfl (Nat.le_of_ble_eq_true rfl) dX11_shut_11 (fun k9 hk9 ce q9 H locs a1 a2 a3 a4 a5 a6 => ?_) (fun vr hv => (inlr hv).elim)
      obtain rfl := Sum.inl.inj hk9
      exact sx_out C ht a1 a2 a3 a4 a5 a6 (Nat.le_of_ble_eq_true rfl) (Nat.le_of_ble_eq_true rfl)
    · replace h := bsr h
      refine sx_xcallV (As := [.int v1]) (rest := []) C hs (c_X11_checkNotShut hfl ex5) mo_X11_checkNotShut q1252 i4 rfl rfl hl.1 ⟨⟨(Nat.le_of_ble_eq_true rfl), (Nat.le_of_ble_eq_true rfl)⟩, (Nat.le_of_ble_eq_true rfl), (Nat.le_of_ble_eq_true rfl)⟩ rfl (Nat.le_of_ble_eq_true rfl) dX11_shut_11 (fun k9 hk9 => (inrl hk9).elim) (fun vr hv H locs hs => ?_)
      obtain rfl := Sum.inr.inj hv
      refine W.eq (g2 := F0 m 14 ls []) rfl ?_
      refine W.widen (k := 0) (n := 0) (Nat.le_of_ble_eq_true rfl) (Nat.le_of_ble_eq_true rfl) ?_
      refine lv_aload_n C.1 C.2.1 dX11_shut_14 rfl (lv_at hl 0 rfl) ?_
      replace h := ob h; obtain ⟨p8, ep8, h⟩ := h
      refine sx_getV C hs fo_X11_67 (gR_v ep8) dX11_shut_15 ?_
      refine lv_iload_n C.1 C.2.1 dX11_shut_18 rfl (lv_at hl 1 rfl) ?_
      replace h := ob h; obtain ⟨⟨⟩, i9, h⟩ := h
      replace h := ob2 h; obtain ⟨x10, τ11, ex10, h⟩ := h
      refine sx_callV (As := [.int v1]) (rest := []) C hs (c_X3_shutUpTo ex10) mo_X3_shutUpTo q1325 i9 rfl rfl hl.1 ⟨⟨(Nat.le_of_ble_eq_true rfl), (Nat.le_of_ble_eq_true rfl)⟩, (Nat.le_of_ble_eq_true rfl), (Nat.le_of_ble_eq_true rfl)⟩ rfl (Nat.le_of_ble_eq_true rfl) dX11_shut_19 (fun H locs hs => ?_)
      refine W.eq (g2 := F0 m 22 ls [.int x10]) rfl ?_
      cases h
      exact sx_iretX C hs hr rfl dX11_shut_22
def f_X11_undo (σ : Sto) (a0 : Nat) : Option ((Nat ⊕ Int32) × Sto) :=
 (gR σ a0 10 10).bind fun p1 =>
 (gI σ p1 3 8).bind fun x2 =>
 if x2 = 0 then
 some (.inl 2, σ)
 else
 (gR σ a0 10 10).bind fun p4 =>
 (isO σ p4 3).bind fun _ =>
 (f_X3_dayOfLatest σ p4).bind fun x6 =>
 (isO σ a0 10).bind fun _ =>
 (f_X11_checkNotShut σ a0 x6).bind fun u9 =>
 bs u9 (fun j10 => some (.inl j10, σ)) fun x8 =>
 (gR σ a0 10 10).bind fun p11 =>
 (isO σ p11 3).bind fun _ =>
 b2 (f_X3_dropLatest σ p11) fun x13 τ14 =>
 some (.inr x13, τ14)
set_option maxHeartbeats 4000000 in
set_option maxRecDepth 100000 in
theorem c_X11_undo {l : Launch} (hfl : l.stackTraces = false) {g : PP} {σ : Sto} {sz : Nat} {a0 : Nat} {r9 : Nat ⊕ Int32} {σ9 : Sto} (h : f_X11_undo σ a0 = some (r9, σ9)) : vx_Met l yX11_undo [Cond.code yX11_undo cX11_undo 1 (some .int)] (rmk 7 (cX r9) (cY r9) 121) (Pre g σ sz [.ref a0]) (PstX g (Sum.map id vI r9) σ9 sz) (XpX g (Sum.map id vI r9) σ9 sz) (cX r9) (cY r9) (Aw g) := by
  refine vx_ofW (cc := cX11_undo) (maxL := 1) (ret := (some .int)) (by decide) rfl ?_
  intro p e s m args below meth c s₁ B hml ht hv
  obtain ⟨rfl, C, hs⟩ := ctx_of B hml hv
  have C : Cx g p s m meth c cX11_undo 1 "Tillhouse" := C
  have hr := B.returns
  have hl := lv_entry ([.ref a0]) (n := 1) (Nat.le_of_ble_eq_true rfl)
  rw [lg_entry_eq]
  generalize (lg_sl ([.ref a0]) ++ List.replicate (1 - (lg_sl ([.ref a0])).length) Slot.unset).toArray = ls at hl ⊢
  have hl : lv_has ls 1 [(0, .ref a0)] := hl
  unfold f_X11_undo at h
  refine lv_aload_n C.1 C.2.1 dX11_undo_0 rfl (lv_at hl 0 rfl) ?_
  replace h := ob h; obtain ⟨p1, ep1, h⟩ := h
  refine sx_getV C hs fo_X11_67 (gR_v ep1) dX11_undo_1 ?_
  replace h := ob h; obtain ⟨x2, ex2, h⟩ := h
  refine sx_getV C hs fo_X11_456 (gI_v ex2) dX11_undo_4 ?_
  refine lv_if_ne (tgt := 21) C.1 C.2.1 dX11_undo_7 (by decide) (fun c3 => ?_) (fun c3 => ?_)
  · replace h := iN c3 h
    refine lv_aload_n C.1 C.2.1 dX11_undo_21 rfl (lv_at hl 0 rfl) ?_
    refine lv_aload_n C.1 C.2.1 dX11_undo_22 rfl (lv_at hl 0 rfl) ?_
    replace h := ob h; obtain ⟨p4, ep4, h⟩ := h
    refine sx_getV C hs fo_X11_67 (gR_v ep4) dX11_undo_23 ?_
    replace h := ob h; obtain ⟨⟨⟩, i5, h⟩ := h
    replace h := ob h; obtain ⟨x6, ex6, h⟩ := h
    refine sx_callV (As := []) (rest := [.ref a0]) C hs (c_X3_dayOfLatest ex6) mo_X3_dayOfLatest q1338 i5 rfl rfl hl.1 ⟨⟨(Nat.le_of_ble_eq_true rfl), (Nat.le_of_ble_eq_true rfl)⟩, (Nat.le_of_ble_eq_true rfl), (Nat.le_of_ble_eq_true rfl)⟩ rfl (Nat.le_of_ble_eq_true rfl) dX11_undo_26 (fun H locs hs => ?_)
    refine W.eq (g2 := F0 m 29 ls [.int x6, .ref a0]) rfl ?_
    replace h := ob h; obtain ⟨⟨⟩, i7, h⟩ := h
    replace h := ob h; obtain ⟨u9, ex8, h⟩ := h
    rcases u9 with j10 | x8
    · replace h := bsl h
      cases h
      refine sx_xcallV (As := [.int x6]) (rest := []) C hs (c_X11_checkNotShut hfl ex8) mo_X11_checkNotShut q1252 i7 rfl rfl hl.1 ⟨⟨(Nat.le_of_ble_eq_true rfl), (Nat.le_of_ble_eq_true rfl)⟩, (Nat.le_of_ble_eq_true rfl), (Nat.le_of_ble_eq_true rfl)⟩ rfl (Nat.le_of_ble_eq_true rfl) dX11_undo_29 (fun k9 hk9 ce q9 H locs a1 a2 a3 a4 a5 a6 => ?_) (fun vr hv => (inlr hv).elim)
      obtain rfl := Sum.inl.inj hk9
      exact sx_out C ht a1 a2 a3 a4 a5 a6 (Nat.le_of_ble_eq_true rfl) (Nat.le_of_ble_eq_true rfl)
    · replace h := bsr h
      refine sx_xcallV (As := [.int x6]) (rest := []) C hs (c_X11_checkNotShut hfl ex8) mo_X11_checkNotShut q1252 i7 rfl rfl hl.1 ⟨⟨(Nat.le_of_ble_eq_true rfl), (Nat.le_of_ble_eq_true rfl)⟩, (Nat.le_of_ble_eq_true rfl), (Nat.le_of_ble_eq_true rfl)⟩ rfl (Nat.le_of_ble_eq_true rfl) dX11_undo_29 (fun k9 hk9 => (inrl hk9).elim) (fun vr hv H locs hs => ?_)
      obtain rfl := Sum.inr.inj hv
      refine W.eq (g2 := F0 m 32 ls []) rfl ?_
      refine W.widen (k := 0) (n := 0) (Nat.le_of_ble_eq_true rfl) (Nat.le_of_ble_eq_true rfl) ?_
      refine lv_aload_n C.1 C.2.1 dX11_undo_32 rfl (lv_at hl 0 rfl) ?_
      replace h := ob h; obtain ⟨p11, ep11, h⟩ := h
      refine sx_getV C hs fo_X11_67 (gR_v ep11) dX11_undo_33 ?_
      replace h := ob h; obtain ⟨⟨⟩, i12, h⟩ := h
      replace h := ob2 h; obtain ⟨x13, τ14, ex13, h⟩ := h
      refine sx_callV (As := []) (rest := []) C hs (c_X3_dropLatest ex13) mo_X3_dropLatest q1342 i12 rfl rfl hl.1 ⟨⟨(Nat.le_of_ble_eq_true rfl), (Nat.le_of_ble_eq_true rfl)⟩, (Nat.le_of_ble_eq_true rfl), (Nat.le_of_ble_eq_true rfl)⟩ rfl (Nat.le_of_ble_eq_true rfl) dX11_undo_36 (fun H locs hs => ?_)
      refine W.eq (g2 := F0 m 39 ls [.int x13]) rfl ?_
      cases h
      exact sx_iretX C hs hr rfl dX11_undo_39
  · replace h := ip c3 h
    cases h
    exact sx_throwNW C hfl hs to_X11_210_459 ht hl.1 dX11_undo_10 dX11_undo_13 dX11_undo_14 dX11_undo_17 dX11_undo_20 ⟨by decide, (Nat.le_of_ble_eq_true rfl), (Nat.le_of_ble_eq_true rfl), (Nat.le_of_ble_eq_true rfl)⟩ ⟨(Nat.le_of_ble_eq_true rfl), (Nat.le_of_ble_eq_true rfl)⟩
def f_X11_isSound (N : Nat) (σ : Sto) (a0 : Nat) : Option Int32 :=
 (gR σ a0 10 10).bind fun p1 =>
 (isO σ p1 3).bind fun _ =>
 (f_X3_isEven N σ p1).bind fun x3 =>
 if x3 = 0 then
 some (0)
 else
 (gR σ a0 10 8).bind fun p5 =>
 (isO σ p5 6).bind fun _ =>
 (f_X7_addsUp N σ p5).bind fun x7 =>
 if x7 = 0 then
 some (0)
 else
 (gR σ a0 10 9).bind fun p9 =>
 (isO σ p9 4).bind fun _ =>
 (f_X4_comesToNothing N σ p9).bind fun x11 =>
 if x11 = 0 then
 some (0)
 else
 some (1)
set_option maxHeartbeats 4000000 in
set_option maxRecDepth 100000 in
theorem c_X11_isSound {l : Launch} {g : PP} {N : Nat} {σ : Sto} {sz : Nat} {a0 : Nat} {r9 : Int32} (h : f_X11_isSound N σ a0 = some r9) : Met l yX11_isSound [Cond.code yX11_isSound cX11_isSound 1 (some .boolean)] (rmk 2 0 0 47) (Pre g σ sz [.ref a0]) (Pst g (vI r9) σ sz) 0 0 (Aw g) := by
  refine Met.ofW (cc := cX11_isSound) (maxL := 1) (ret := (some .boolean)) (by decide) rfl ?_
  intro p e s m args below meth c s₁ B hml hv
  obtain ⟨rfl, C, hs⟩ := ctx_of B hml hv
  have C : Cx g p s m meth c cX11_isSound 1 "Tillhouse" := C
  have hr := B.returns
  have hl := lv_entry ([.ref a0]) (n := 1) (Nat.le_of_ble_eq_true rfl)
  rw [lg_entry_eq]
  generalize (lg_sl ([.ref a0]) ++ List.replicate (1 - (lg_sl ([.ref a0])).length) Slot.unset).toArray = ls at hl ⊢
  have hl : lv_has ls 1 [(0, .ref a0)] := hl
  unfold f_X11_isSound at h
  refine lv_aload_n C.1 C.2.1 dX11_isSound_0 rfl (lv_at hl 0 rfl) ?_
  replace h := ob h; obtain ⟨p1, ep1, h⟩ := h
  refine sx_getV C hs fo_X11_67 (gR_v ep1) dX11_isSound_1 ?_
  replace h := ob h; obtain ⟨⟨⟩, i2, h⟩ := h
  replace h := ob h; obtain ⟨x3, ex3, h⟩ := h
  refine sx_callV (As := []) (rest := []) C hs (c_X3_isEven ex3) mo_X3_isEven q320 i2 rfl rfl hl.1 ⟨⟨(Nat.le_of_ble_eq_true rfl), (Nat.le_of_ble_eq_true rfl)⟩, (Nat.le_of_ble_eq_true rfl), (Nat.le_of_ble_eq_true rfl)⟩ rfl (Nat.le_of_ble_eq_true rfl) dX11_isSound_4 (fun H locs hs => ?_)
  refine W.eq (g2 := F0 m 7 ls [.int x3]) rfl ?_
  refine lv_if_eq (tgt := 34) C.1 C.2.1 dX11_isSound_7 (by decide) (fun c4 => ?_) (fun c4 => ?_)
  · replace h := ip c4 h
    refine lv_iconst (v := 0) C.1 C.2.1 dX11_isSound_34 (by decide) ?_
    cases h
    exact sx_iret C hs hr (by decide) dX11_isSound_35
  · replace h := iN c4 h
    refine lv_aload_n C.1 C.2.1 dX11_isSound_10 rfl (lv_at hl 0 rfl) ?_
    replace h := ob h; obtain ⟨p5, ep5, h⟩ := h
    refine sx_getV C hs fo_X11_53 (gR_v ep5) dX11_isSound_11 ?_
    replace h := ob h; obtain ⟨⟨⟩, i6, h⟩ := h
    replace h := ob h; obtain ⟨x7, ex7, h⟩ := h
    refine sx_callV (As := []) (rest := []) C hs (c_X7_addsUp ex7) mo_X7_addsUp q328 i6 rfl rfl hl.1 ⟨⟨(Nat.le_of_ble_eq_true rfl), (Nat.le_of_ble_eq_true rfl)⟩, (Nat.le_of_ble_eq_true rfl), (Nat.le_of_ble_eq_true rfl)⟩ rfl (Nat.le_of_ble_eq_true rfl) dX11_isSound_14 (fun H locs hs => ?_)
    refine W.eq (g2 := F0 m 17 ls [.int x7]) rfl ?_
    refine lv_if_eq (tgt := 34) C.1 C.2.1 dX11_isSound_17 (by decide) (fun c8 => ?_) (fun c8 => ?_)
    · replace h := ip c8 h
      refine lv_iconst (v := 0) C.1 C.2.1 dX11_isSound_34 (by decide) ?_
      cases h
      exact sx_iret C hs hr (by decide) dX11_isSound_35
    · replace h := iN c8 h
      refine lv_aload_n C.1 C.2.1 dX11_isSound_20 rfl (lv_at hl 0 rfl) ?_
      replace h := ob h; obtain ⟨p9, ep9, h⟩ := h
      refine sx_getV C hs fo_X11_60 (gR_v ep9) dX11_isSound_21 ?_
      replace h := ob h; obtain ⟨⟨⟩, i10, h⟩ := h
      replace h := ob h; obtain ⟨x11, ex11, h⟩ := h
      refine sx_callV (As := []) (rest := []) C hs (c_X4_comesToNothing ex11) mo_X4_comesToNothing q332 i10 rfl rfl hl.1 ⟨⟨(Nat.le_of_ble_eq_true rfl), (Nat.le_of_ble_eq_true rfl)⟩, (Nat.le_of_ble_eq_true rfl), (Nat.le_of_ble_eq_true rfl)⟩ rfl (Nat.le_of_ble_eq_true rfl) dX11_isSound_24 (fun H locs hs => ?_)
      refine W.eq (g2 := F0 m 27 ls [.int x11]) rfl ?_
      refine lv_if_eq (tgt := 34) C.1 C.2.1 dX11_isSound_27 (by decide) (fun c12 => ?_) (fun c12 => ?_)
      · replace h := ip c12 h
        refine lv_iconst (v := 0) C.1 C.2.1 dX11_isSound_34 (by decide) ?_
        cases h
        exact sx_iret C hs hr (by decide) dX11_isSound_35
      · replace h := iN c12 h
        refine lv_iconst (v := 1) C.1 C.2.1 dX11_isSound_30 (by decide) ?_
        refine lv_goto (tgt := 35) C.1 C.2.1 dX11_isSound_31 (by decide) ?_
        cases h
        exact sx_iret C hs hr (by decide) dX11_isSound_35
