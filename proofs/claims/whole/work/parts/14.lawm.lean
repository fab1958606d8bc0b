def f_L_put (N : Nat) (σ : Sto) (sz : Nat) (a0 : Nat) (v1 : Int32) (v2 : Int64) (v4 : Int32) (a5 : Nat) : Option (Int32 × Sto × Nat) :=
 (isO σ a0 10).bind fun _ =>
 b3 (f_X11_put N σ sz a0 v1 v2 v4) fun u5 τ3 y4 =>
 bs u5 (fun j6 => if j6 = 0 then some (1, τ3, y4) else if j6 = 1 then some (2, τ3, y4) else none) fun x2 =>
 (sL τ3 a5 2 0 (Int32.toInt64 x2)).bind fun τ9 =>
 some (0, τ9, y4)
set_option maxHeartbeats 4000000 in
set_option maxRecDepth 100000 in
theorem c_L_put {l : Launch} (hfl : l.stackTraces = false) {g : PP} {N : Nat} {σ : Sto} {sz : Nat} {a0 : Nat} {v1 : Int32} {v2 : Int64} {v4 : Int32} {a5 : Nat} {r9 : Int32} {σ9 : Sto} {sz9 : Nat} (h : f_L_put N σ sz a0 v1 v2 v4 a5 = some (r9, σ9, sz9)) : Met l yL_put [Cond.codeWith yL_put cL_put 7 (some .int) [(0, 13, 16, 13), (0, 13, 20, 15)]] (rmk 8 1 6 145) (Pre g σ sz [.ref a0, .int v1, .long v2, .int v4, .ref a5]) (PstG g (vI r9) σ9 sz9) 1 6 (Aw g) := by
  refine va_MetW (hh := [(0, 13, 16, 13), (0, 13, 20, 15)]) (cc := cL_put) (maxL := 7) (ret := (some .int)) (by decide) rfl ?_
  intro p e s m args below meth c s₁ B hml hv
  obtain ⟨rfl, C, hs⟩ := ctx_of B hml hv
  have C : Cx g p s m meth c cL_put 7 "TillhouseLaw" := C
  have hr := B.returns
  have tb := vx_table (x := yL_put) B (C.2.2.2.2.1.1 _ cw_L_put _)
  have hl := lv_entry ([.ref a0, .int v1, .long v2, .int v4, .ref a5]) (n := 7) (Nat.le_of_ble_eq_true rfl)
  rw [lg_entry_eq]
  generalize (lg_sl ([.ref a0, .int v1, .long v2, .int v4, .ref a5]) ++ List.replicate (7 - (lg_sl ([.ref a0, .int v1, .long v2, .int v4, .ref a5])).length) Slot.unset).toArray = ls at hl ⊢
  have hl : lv_has ls 7 [(0, .ref a0), (1, .int v1), (2, .long v2), (4, .int v4), (5, .ref a5)] := hl
  unfold f_L_put at h
  refine lv_aload C.1 C.2.1 dL_put_0 (lv_at hl 4 rfl) ?_
  refine lv_iconst (v := 0) C.1 C.2.1 dL_put_2 (by decide) ?_
  refine lv_aload_n C.1 C.2.1 dL_put_3 rfl (lv_at hl 0 rfl) ?_
  refine lv_iload_n C.1 C.2.1 dL_put_4 rfl (lv_at hl 1 rfl) ?_
  refine lv_lload_n C.1 C.2.1 dL_put_5 rfl (lv_at hl 2 rfl) ?_
  refine lv_iload C.1 C.2.1 dL_put_6 (lv_at hl 3 rfl) ?_
  replace h := ob h; obtain ⟨⟨⟩, i1, h⟩ := h
  replace h := ob3 h; obtain ⟨u5, τ3, y4, ex2, h⟩ := h
  rcases u5 with j6 | x2
  · replace h := bsl h
    rcases Decidable.em (j6 = 0) with c7 | c7
    · replace h := ip c7 h
      subst c7
      cases h
      refine sx_xcallV (As := [.int v1, .long v2, .int v4]) (rest := [.int 0, .ref a5]) C hs (c_X11_put hfl ex2) mo_X11_put q420 i1 rfl rfl hl.1 ⟨⟨(Nat.le_of_ble_eq_true rfl), (Nat.le_of_ble_eq_true rfl)⟩, (Nat.le_of_ble_eq_true rfl), (Nat.le_of_ble_eq_true rfl)⟩ rfl (Nat.le_of_ble_eq_true rfl) dL_put_8 (fun k9 hk9 ce q9 H locs f1 f2 f3 f4 f5 f6 => ?_) (fun vr hv => (inlr hv).elim)
      obtain rfl := Sum.inl.inj hk9
      refine sx_catch (k := 0) (hp := []) (hs9 := [(0, 13, 20, 15)]) (a9 := 0) (b9 := 13) (h9 := 16) (d9 := 13) C tb (fun _ h => nomatch h) (by decide) (by decide) q339 f4 f5 f6 ?_
      refine lv_astore (lv' := [(6, .ref q9), (0, .ref a0), (1, .int v1), (2, .long v2), (4, .int v4), (5, .ref a5)]) C.1 C.2.1 dL_put_16 hl (by decide) rfl (fun ls hl => ?_)
      refine lv_iconst (v := 1) C.1 C.2.1 dL_put_18 (by decide) ?_
      refine W.widen (k := 1) (n := 6) (Nat.le_of_ble_eq_true rfl) (Nat.le_of_ble_eq_true rfl) ?_
      exact sx_iretK C f1 f2 f3 hr rfl dL_put_19
    · replace h := iN c7 h
      rcases Decidable.em (j6 = 1) with c8 | c8
      · replace h := ip c8 h
        subst c8
        cases h
        refine sx_xcallV (As := [.int v1, .long v2, .int v4]) (rest := [.int 0, .ref a5]) C hs (c_X11_put hfl ex2) mo_X11_put q420 i1 rfl rfl hl.1 ⟨⟨(Nat.le_of_ble_eq_true rfl), (Nat.le_of_ble_eq_true rfl)⟩, (Nat.le_of_ble_eq_true rfl), (Nat.le_of_ble_eq_true rfl)⟩ rfl (Nat.le_of_ble_eq_true rfl) dL_put_8 (fun k9 hk9 ce q9 H locs f1 f2 f3 f4 f5 f6 => ?_) (fun vr hv => (inlr hv).elim)
        obtain rfl := Sum.inl.inj hk9
        refine sx_catch (k := 1) (hp := [(0, 13, 16, 13)]) (hs9 := []) (a9 := 0) (b9 := 13) (h9 := 20) (d9 := 15) C tb (List.forall_mem_cons.mpr ⟨⟨by decide, 0, q339, by decide⟩, (fun _ h => nomatch h)⟩) (by decide) (by decide) q419 f4 f5 f6 ?_
        refine lv_astore (lv' := [(6, .ref q9), (0, .ref a0), (1, .int v1), (2, .long v2), (4, .int v4), (5, .ref a5)]) C.1 C.2.1 dL_put_20 hl (by decide) rfl (fun ls hl => ?_)
        refine lv_iconst (v := 2) C.1 C.2.1 dL_put_22 (by decide) ?_
        refine W.widen (k := 1) (n := 6) (Nat.le_of_ble_eq_true rfl) (Nat.le_of_ble_eq_true rfl) ?_
        exact sx_iretK C f1 f2 f3 hr rfl dL_put_23
      · replace h := iN c8 h
        cases h
  · replace h := bsr h
    refine sx_xcallV (As := [.int v1, .long v2, .int v4]) (rest := [.int 0, .ref a5]) C hs (c_X11_put hfl ex2) mo_X11_put q420 i1 rfl rfl hl.1 ⟨⟨(Nat.le_of_ble_eq_true rfl), (Nat.le_of_ble_eq_true rfl)⟩, (Nat.le_of_ble_eq_true rfl), (Nat.le_of_ble_eq_true rfl)⟩ rfl (Nat.le_of_ble_eq_true rfl) dL_put_8 (fun k9 hk9 => (inrl hk9).elim) (fun vr hv H locs hs => ?_)
    obtain rfl := Sum.inr.inj hv
    refine W.eq (g2 := F0 m 11 ls [.int x2, .int 0, .ref a5]) rfl ?_
    refine W.widen (k := 1) (n := 6) (Nat.le_of_ble_eq_true rfl) (Nat.le_of_ble_eq_true rfl) ?_
    refine lv_i2l (v := Int32.toInt64 x2) C.1 C.2.1 dL_put_11 rfl ?_
    replace h := ob h; obtain ⟨τ9, eτ9, h⟩ := h
    refine sx_last C hs eτ9 dL_put_12 (fun H locs hs => ?_)
    refine lv_goto (tgt := 24) C.1 C.2.1 dL_put_13 (by decide) ?_
    refine lv_iconst (v := 0) C.1 C.2.1 dL_put_24 (by decide) ?_
    cases h
    exact sx_iretG C hs hr rfl dL_put_25
def f_L_type (σ : Sto) (sz : Nat) (a0 : Nat) (v1 : Int32) (a2 : Nat) : Option (Int32 × Sto × Nat) :=
 (isO σ a0 10).bind fun _ =>
 b2 (f_X11_type σ a0 v1) fun u4 τ3 =>
 bs u4 (fun j5 => if j5 = 4 then some (1, τ3, sz) else none) fun x2 =>
 (sL τ3 a2 2 0 (Int32.toInt64 x2)).bind fun τ7 =>
 some (0, τ7, sz)
set_option maxHeartbeats 4000000 in
set_option maxRecDepth 100000 in
theorem c_L_type {l : Launch} (hfl : l.stackTraces = false) {g : PP} {σ : Sto} {sz : Nat} {a0 : Nat} {v1 : Int32} {a2 : Nat} {r9 : Int32} {σ9 : Sto} {sz9 : Nat} (h : f_L_type σ sz a0 v1 a2 = some (r9, σ9, sz9)) : Met l yL_type [Cond.codeWith yL_type cL_type 4 (some .int) [(0, 9, 12, 21)]] (rmk 7 1 6 121) (Pre g σ sz [.ref a0, .int v1, .ref a2]) (PstG g (vI r9) σ9 sz9) 1 6 (Aw g) := by
  refine va_MetW (hh := [(0, 9, 12, 21)]) (cc := cL_type) (maxL := 4) (ret := (some .int)) (by decide) rfl ?_
  intro p e s m args below meth c s₁ B hml hv
  obtain ⟨rfl, C, hs⟩ := ctx_of B hml hv
  have C : Cx g p s m meth c cL_type 4 "TillhouseLaw" := C
  have hr := B.returns
  have tb := vx_table (x := yL_type) B (C.2.2.2.2.1.1 _ cw_L_type _)
  have hl := lv_entry ([.ref a0, .int v1, .ref a2]) (n := 4) (Nat.le_of_ble_eq_true rfl)
  rw [lg_entry_eq]
  generalize (lg_sl ([.ref a0, .int v1, .ref a2]) ++ List.replicate (4 - (lg_sl ([.ref a0, .int v1, .ref a2])).length) Slot.unset).toArray = ls at hl ⊢
  have hl : lv_has ls 4 [(0, .ref a0), (1, .int v1), (2, .ref a2)] := hl
  unfold f_L_type at h
  refine lv_aload_n C.1 C.2.1 dL_type_0 rfl (lv_at hl 2 rfl) ?_
  refine lv_iconst (v := 0) C.1 C.2.1 dL_type_1 (by decide) ?_
  refine lv_aload_n C.1 C.2.1 dL_type_2 rfl (lv_at hl 0 rfl) ?_
  refine lv_iload_n C.1 C.2.1 dL_type_3 rfl (lv_at hl 1 rfl) ?_
  replace h := ob h; obtain ⟨⟨⟩, i1, h⟩ := h
  replace h := ob2 h; obtain ⟨u4, τ3, ex2, h⟩ := h
  rcases u4 with j5 | x2
  · replace h := bsl h
    rcases Decidable.em (j5 = 4) with c6 | c6
    · replace h := ip c6 h
      subst c6
      cases h
      refine sx_xcallV (As := [.int v1]) (rest := [.int 0, .ref a2]) C hs (c_X11_type hfl ex2) mo_X11_type q495 i1 rfl rfl hl.1 ⟨⟨(Nat.le_of_ble_eq_true rfl), (Nat.le_of_ble_eq_true rfl)⟩, (Nat.le_of_ble_eq_true rfl), (Nat.le_of_ble_eq_true rfl)⟩ rfl (Nat.le_of_ble_eq_true rfl) dL_type_4 (fun k9 hk9 ce q9 H locs f1 f2 f3 f4 f5 f6 => ?_) (fun vr hv => (inlr hv).elim)
      obtain rfl := Sum.inl.inj hk9
      refine sx_catch (k := 4) (hp := []) (hs9 := []) (a9 := 0) (b9 := 9) (h9 := 12) (d9 := 21) C tb (fun _ h => nomatch h) (by decide) (by decide) q494 f4 f5 f6 ?_
      refine lv_astore_n (lv' := [(3, .ref q9), (0, .ref a0), (1, .int v1), (2, .ref a2)]) C.1 C.2.1 dL_type_12 rfl hl (by decide) rfl (fun ls hl => ?_)
      refine lv_iconst (v := 1) C.1 C.2.1 dL_type_13 (by decide) ?_
      refine W.widen (k := 1) (n := 6) (Nat.le_of_ble_eq_true rfl) (Nat.le_of_ble_eq_true rfl) ?_
      exact sx_iretK C f1 f2 f3 hr rfl dL_type_14
    · replace h := iN c6 h
      cases h
  · replace h := bsr h
    refine sx_xcallV (As := [.int v1]) (rest := [.int 0, .ref a2]) C hs (c_X11_type hfl ex2) mo_X11_type q495 i1 rfl rfl hl.1 ⟨⟨(Nat.le_of_ble_eq_true rfl), (Nat.le_of_ble_eq_true rfl)⟩, (Nat.le_of_ble_eq_true rfl), (Nat.le_of_ble_eq_true rfl)⟩ rfl (Nat.le_of_ble_eq_true rfl) dL_type_4 (fun k9 hk9 => (inrl hk9).elim) (fun vr hv H locs hs => ?_)
    obtain rfl := Sum.inr.inj hv
    refine W.eq (g2 := F0 m 7 ls [.int x2, .int 0, .ref a2]) rfl ?_
    refine W.widen (k := 0) (n := 0) (Nat.le_of_ble_eq_true rfl) (Nat.le_of_ble_eq_true rfl) ?_
    refine lv_i2l (v := Int32.toInt64 x2) C.1 C.2.1 dL_type_7 rfl ?_
    replace h := ob h; obtain ⟨τ7, eτ7, h⟩ := h
    refine sx_last C hs eτ7 dL_type_8 (fun H locs hs => ?_)
    refine lv_goto (tgt := 15) C.1 C.2.1 dL_type_9 (by decide) ?_
    refine lv_iconst (v := 0) C.1 C.2.1 dL_type_15 (by decide) ?_
    cases h
    refine W.widen (k := 1) (n := 6) (Nat.le_of_ble_eq_true rfl) (Nat.le_of_ble_eq_true rfl) ?_
    exact sx_iretG C hs hr rfl dL_type_16
def f_L_read (N : Nat) (σ : Sto) (sz : Nat) (a0 : Nat) (v1 : Int32) (a2 : Nat) : Option (Int32 × Sto × Nat) :=
 (isO σ a0 10).bind fun _ =>
 b3 (f_X11_read N σ sz a0 v1) fun u5 τ3 y4 =>
 bs u5 (fun j6 => if j6 = 0 then some (1, τ3, y4) else if j6 = 1 then some (2, τ3, y4) else if j6 = 3 then some (3, τ3, y4) else none) fun x2 =>
 (sL τ3 a2 2 0 (Int32.toInt64 x2)).bind fun τ10 =>
 some (0, τ10, y4)
set_option maxHeartbeats 4000000 in
set_option maxRecDepth 100000 in
theorem c_L_read {l : Launch} (hfl : l.stackTraces = false) {g : PP} {N : Nat} {σ : Sto} {sz : Nat} {a0 : Nat} {v1 : Int32} {a2 : Nat} {r9 : Int32} {σ9 : Sto} {sz9 : Nat} (h : f_L_read N σ sz a0 v1 a2 = some (r9, σ9, sz9)) : Met l yL_read [Cond.codeWith yL_read cL_read 4 (some .int) [(0, 9, 12, 13), (0, 9, 15, 15), (0, 9, 18, 27)]] (rmk 9 1 6 173) (Pre g σ sz [.ref a0, .int v1, .ref a2]) (PstG g (vI r9) σ9 sz9) 1 6 (Aw g) := by
  refine va_MetW (hh := [(0, 9, 12, 13), (0, 9, 15, 15), (0, 9, 18, 27)]) (cc := cL_read) (maxL := 4) (ret := (some .int)) (by decide) rfl ?_
  intro p e s m args below meth c s₁ B hml hv
  obtain ⟨rfl, C, hs⟩ := ctx_of B hml hv
  have C : Cx g p s m meth c cL_read 4 "TillhouseLaw" := C
  have hr := B.returns
  have tb := vx_table (x := yL_read) B (C.2.2.2.2.1.1 _ cw_L_read _)
  have hl := lv_entry ([.ref a0, .int v1, .ref a2]) (n := 4) (Nat.le_of_ble_eq_true rfl)
  rw [lg_entry_eq]
  generalize (lg_sl ([.ref a0, .int v1, .ref a2]) ++ List.replicate (4 - (lg_sl ([.ref a0, .int v1, .ref a2])).length) Slot.unset).toArray = ls at hl ⊢
  have hl : lv_has ls 4 [(0, .ref a0), (1, .int v1), (2, .ref a2)] := hl
  unfold f_L_read at h
  refine lv_aload_n C.1 C.2.1 dL_read_0 rfl (lv_at hl 2 rfl) ?_
  refine lv_iconst (v := 0) C.1 C.2.1 dL_read_1 (by decide) ?_
  refine lv_aload_n C.1 C.2.1 dL_read_2 rfl (lv_at hl 0 rfl) ?_
  refine lv_iload_n C.1 C.2.1 dL_read_3 rfl (lv_at hl 1 rfl) ?_
  replace h := ob h; obtain ⟨⟨⟩, i1, h⟩ := h
  replace h := ob3 h; obtain ⟨u5, τ3, y4, ex2, h⟩ := h
  rcases u5 with j6 | x2
  · replace h := bsl h
    rcases Decidable.em (j6 = 0) with c7 | c7
    · replace h := ip c7 h
      subst c7
      cases h
      refine sx_xcallV (As := [.int v1]) (rest := [.int 0, .ref a2]) C hs (c_X11_read hfl ex2) mo_X11_read q540 i1 rfl rfl hl.1 ⟨⟨(Nat.le_of_ble_eq_true rfl), (Nat.le_of_ble_eq_true rfl)⟩, (Nat.le_of_ble_eq_true rfl), (Nat.le_of_ble_eq_true rfl)⟩ rfl (Nat.le_of_ble_eq_true rfl) dL_read_4 (fun k9 hk9 ce q9 H locs f1 f2 f3 f4 f5 f6 => ?_) (fun vr hv => (inlr hv).elim)
      obtain rfl := Sum.inl.inj hk9
      refine sx_catch (k := 0) (hp := []) (hs9 := [(0, 9, 15, 15), (0, 9, 18, 27)]) (a9 := 0) (b9 := 9) (h9 := 12) (d9 := 13) C tb (fun _ h => nomatch h) (by decide) (by decide) q339 f4 f5 f6 ?_
      refine lv_astore_n (lv' := [(3, .ref q9), (0, .ref a0), (1, .int v1), (2, .ref a2)]) C.1 C.2.1 dL_read_12 rfl hl (by decide) rfl (fun ls hl => ?_)
      refine lv_iconst (v := 1) C.1 C.2.1 dL_read_13 (by decide) ?_
      refine W.widen (k := 1) (n := 6) (Nat.le_of_ble_eq_true rfl) (Nat.le_of_ble_eq_true rfl) ?_
      exact sx_iretK C f1 f2 f3 hr rfl dL_read_14
    · replace h := iN c7 h
      rcases Decidable.em (j6 = 1) with c8 | c8
      · replace h := ip c8 h
        subst c8
        cases h
        refine sx_xcallV (As := [.int v1]) (rest := [.int 0, .ref a2]) C hs (c_X11_read hfl ex2) mo_X11_read q540 i1 rfl rfl hl.1 ⟨⟨(Nat.le_of_ble_eq_true rfl), (Nat.le_of_ble_eq_true rfl)⟩, (Nat.le_of_ble_eq_true rfl), (Nat.le_of_ble_eq_true rfl)⟩ rfl (Nat.le_of_ble_eq_true rfl) dL_read_4 (fun k9 hk9 ce q9 H locs f1 f2 f3 f4 f5 f6 => ?_) (fun vr hv => (inlr hv).elim)
        obtain rfl := Sum.inl.inj hk9
        refine sx_catch (k := 1) (hp := [(0, 9, 12, 13)]) (hs9 := [(0, 9, 18, 27)]) (a9 := 0) (b9 := 9) (h9 := 15) (d9 := 15) C tb (List.forall_mem_cons.mpr ⟨⟨by decide, 0, q339, by decide⟩, (fun _ h => nomatch h)⟩) (by decide) (by decide) q419 f4 f5 f6 ?_
        refine lv_astore_n (lv' := [(3, .ref q9), (0, .ref a0), (1, .int v1), (2, .ref a2)]) C.1 C.2.1 dL_read_15 rfl hl (by decide) rfl (fun ls hl => ?_)
        refine lv_iconst (v := 2) C.1 C.2.1 dL_read_16 (by decide) ?_
        refine W.widen (k := 1) (n := 6) (Nat.le_of_ble_eq_true rfl) (Nat.le_of_ble_eq_true rfl) ?_
        exact sx_iretK C f1 f2 f3 hr rfl dL_read_17
      · replace h := iN c8 h
        rcases Decidable.em (j6 = 3) with c9 | c9
        · replace h := ip c9 h
          subst c9
          cases h
          refine sx_xcallV (As := [.int v1]) (rest := [.int 0, .ref a2]) C hs (c_X11_read hfl ex2) mo_X11_read q540 i1 rfl rfl hl.1 ⟨⟨(Nat.le_of_ble_eq_true rfl), (Nat.le_of_ble_eq_true rfl)⟩, (Nat.le_of_ble_eq_true rfl), (Nat.le_of_ble_eq_true rfl)⟩ rfl (Nat.le_of_ble_eq_true rfl) dL_read_4 (fun k9 hk9 ce q9 H locs f1 f2 f3 f4 f5 f6 => ?_) (fun vr hv => (inlr hv).elim)
          obtain rfl := Sum.inl.inj hk9
          refine sx_catch (k := 3) (hp := [(0, 9, 12, 13), (0, 9, 15, 15)]) (hs9 := []) (a9 := 0) (b9 := 9) (h9 := 18) (d9 := 27) C tb (List.forall_mem_cons.mpr ⟨⟨by decide, 0, q339, by decide⟩, (List.forall_mem_cons.mpr ⟨⟨by decide, 1, q419, by decide⟩, (fun _ h => nomatch h)⟩)⟩) (by decide) (by decide) q526 f4 f5 f6 ?_
          refine lv_astore_n (lv' := [(3, .ref q9), (0, .ref a0), (1, .int v1), (2, .ref a2)]) C.1 C.2.1 dL_read_18 rfl hl (by decide) rfl (fun ls hl => ?_)
          refine lv_iconst (v := 3) C.1 C.2.1 dL_read_19 (by decide) ?_
          refine W.widen (k := 1) (n := 6) (Nat.le_of_ble_eq_true rfl) (Nat.le_of_ble_eq_true rfl) ?_
          exact sx_iretK C f1 f2 f3 hr rfl dL_read_20
        · replace h := iN c9 h
          cases h
  · replace h := bsr h
    refine sx_xcallV (As := [.int v1]) (rest := [.int 0, .ref a2]) C hs (c_X11_read hfl ex2) mo_X11_read q540 i1 rfl rfl hl.1 ⟨⟨(Nat.le_of_ble_eq_true rfl), (Nat.le_of_ble_eq_true rfl)⟩, (Nat.le_of_ble_eq_true rfl), (Nat.le_of_ble_eq_true rfl)⟩ rfl (Nat.le_of_ble_eq_true rfl) dL_read_4 (fun k9 hk9 => (inrl hk9).elim) (fun vr hv H locs hs => ?_)
    obtain rfl := Sum.inr.inj hv
    refine W.eq (g2 := F0 m 7 ls [.int x2, .int 0, .ref a2]) rfl ?_
    refine W.widen (k := 1) (n := 6) (Nat.le_of_ble_eq_true rfl) (Nat.le_of_ble_eq_true rfl) ?_
    refine lv_i2l (v := Int32.toInt64 x2) C.1 C.2.1 dL_read_7 rfl ?_
    replace h := ob h; obtain ⟨τ10, eτ10, h⟩ := h
    refine sx_last C hs eτ10 dL_read_8 (fun H locs hs => ?_)
    refine lv_goto (tgt := 21) C.1 C.2.1 dL_read_9 (by decide) ?_
    refine lv_iconst (v := 0) C.1 C.2.1 dL_read_21 (by decide) ?_
    cases h
    exact sx_iretG C hs hr rfl dL_read_22
def f_L_unscaled (σ : Sto) (sz : Nat) (a0 : Nat) (v1 : Int32) (a2 : Nat) : Option (Int32 × Sto × Nat) :=
 (isO σ a0 10).bind fun _ =>
 (f_X11_unscaled σ a0 v1).bind fun u3 =>
 bs u3 (fun j4 => if j4 = 0 then some (1, σ, sz) else if j4 = 2 then some (2, σ, sz) else none) fun x2 =>
 (sL σ a2 2 0 x2).bind fun τ7 =>
 some (0, τ7, sz)
set_option maxHeartbeats 4000000 in
set_option maxRecDepth 100000 in
theorem c_L_unscaled {l : Launch} (hfl : l.stackTraces = false) {g : PP} {σ : Sto} {sz : Nat} {a0 : Nat} {v1 : Int32} {a2 : Nat} {r9 : Int32} {σ9 : Sto} {sz9 : Nat} (h : f_L_unscaled σ sz a0 v1 a2 = some (r9, σ9, sz9)) : Met l yL_unscaled [Cond.codeWith yL_unscaled cL_unscaled 4 (some .int) [(0, 8, 11, 13), (0, 8, 14, 33)]] (rmk 8 1 6 143) (Pre g σ sz [.ref a0, .int v1, .ref a2]) (PstG g (vI r9) σ9 sz9) 1 6 (Aw g) := by
  refine va_MetW (hh := [(0, 8, 11, 13), (0, 8, 14, 33)]) (cc := cL_unscaled) (maxL := 4) (ret := (some .int)) (by decide) rfl ?_
  intro p e s m args below meth c s₁ B hml hv
  obtain ⟨rfl, C, hs⟩ := ctx_of B hml hv
  have C : Cx g p s m meth c cL_unscaled 4 "TillhouseLaw" := C
  have hr := B.returns
  have tb := vx_table (x := yL_unscaled) B (C.2.2.2.2.1.1 _ cw_L_unscaled _)
  have hl := lv_entry ([.ref a0, .int v1, .ref a2]) (n := 4) (Nat.le_of_ble_eq_true rfl)
  rw [lg_entry_eq]
  generalize (lg_sl ([.ref a0, .int v1, .ref a2]) ++ List.replicate (4 - (lg_sl ([.ref a0, .int v1, .ref a2])).length) Slot.unset).toArray = ls at hl ⊢
  have hl : lv_has ls 4 [(0, .ref a0), (1, .int v1), (2, .ref a2)] := hl
  unfold f_L_unscaled at h
  refine lv_aload_n C.1 C.2.1 dL_unscaled_0 rfl (lv_at hl 2 rfl) ?_
  refine lv_iconst (v := 0) C.1 C.2.1 dL_unscaled_1 (by decide) ?_
  refine lv_aload_n C.1 C.2.1 dL_unscaled_2 rfl (lv_at hl 0 rfl) ?_
  refine lv_iload_n C.1 C.2.1 dL_unscaled_3 rfl (lv_at hl 1 rfl) ?_
  replace h := ob h; obtain ⟨⟨⟩, i1, h⟩ := h
  replace h := ob h; obtain ⟨u3, ex2, h⟩ := h
  rcases u3 with j4 | x2
  · replace h := bsl h
    rcases Decidable.em (j4 = 0) with c5 | c5
    · replace h := ip c5 h
      subst c5
      cases h
      refine sx_xcallV (As := [.int v1]) (rest := [.int 0, .ref a2]) C hs (c_X11_unscaled hfl ex2) mo_X11_unscaled q570 i1 rfl rfl hl.1 ⟨⟨(Nat.le_of_ble_eq_true rfl), (Nat.le_of_ble_eq_true rfl)⟩, (Nat.le_of_ble_eq_true rfl), (Nat.le_of_ble_eq_true rfl)⟩ rfl (Nat.le_of_ble_eq_true rfl) dL_unscaled_4 (fun k9 hk9 ce q9 H locs f1 f2 f3 f4 f5 f6 => ?_) (fun vr hv => (inlr hv).elim)
      obtain rfl := Sum.inl.inj hk9
      refine sx_catch (k := 0) (hp := []) (hs9 := [(0, 8, 14, 33)]) (a9 := 0) (b9 := 8) (h9 := 11) (d9 := 13) C tb (fun _ h => nomatch h) (by decide) (by decide) q339 f4 f5 f6 ?_
      refine lv_astore_n (lv' := [(3, .ref q9), (0, .ref a0), (1, .int v1), (2, .ref a2)]) C.1 C.2.1 dL_unscaled_11 rfl hl (by decide) rfl (fun ls hl => ?_)
      refine lv_iconst (v := 1) C.1 C.2.1 dL_unscaled_12 (by decide) ?_
      refine W.widen (k := 1) (n := 6) (Nat.le_of_ble_eq_true rfl) (Nat.le_of_ble_eq_true rfl) ?_
      exact sx_iretK C f1 f2 f3 hr rfl dL_unscaled_13
    · replace h := iN c5 h
      rcases Decidable.em (j4 = 2) with c6 | c6
      · replace h := ip c6 h
        subst c6
        cases h
        refine sx_xcallV (As := [.int v1]) (rest := [.int 0, .ref a2]) C hs (c_X11_unscaled hfl ex2) mo_X11_unscaled q570 i1 rfl rfl hl.1 ⟨⟨(Nat.le_of_ble_eq_true rfl), (Nat.le_of_ble_eq_true rfl)⟩, (Nat.le_of_ble_eq_true rfl), (Nat.le_of_ble_eq_true rfl)⟩ rfl (Nat.le_of_ble_eq_true rfl) dL_unscaled_4 (fun k9 hk9 ce q9 H locs f1 f2 f3 f4 f5 f6 => ?_) (fun vr hv => (inlr hv).elim)
        obtain rfl := Sum.inl.inj hk9
        refine sx_catch (k := 2) (hp := [(0, 8, 11, 13)]) (hs9 := []) (a9 := 0) (b9 := 8) (h9 := 14) (d9 := 33) C tb (List.forall_mem_cons.mpr ⟨⟨by decide, 0, q339, by decide⟩, (fun _ h => nomatch h)⟩) (by decide) (by decide) q569 f4 f5 f6 ?_
        refine lv_astore_n (lv' := [(3, .ref q9), (0, .ref a0), (1, .int v1), (2, .ref a2)]) C.1 C.2.1 dL_unscaled_14 rfl hl (by decide) rfl (fun ls hl => ?_)
        refine lv_iconst (v := 2) C.1 C.2.1 dL_unscaled_15 (by decide) ?_
        refine W.widen (k := 1) (n := 6) (Nat.le_of_ble_eq_true rfl) (Nat.le_of_ble_eq_true rfl) ?_
        exact sx_iretK C f1 f2 f3 hr rfl dL_unscaled_16
      · replace h := iN c6 h
        cases h
  · replace h := bsr h
    refine sx_xcallV (As := [.int v1]) (rest := [.int 0, .ref a2]) C hs (c_X11_unscaled hfl ex2) mo_X11_unscaled q570 i1 rfl rfl hl.1 ⟨⟨(Nat.le_of_ble_eq_true rfl), (Nat.le_of_ble_eq_true rfl)⟩, (Nat.le_of_ble_eq_true rfl), (Nat.le_of_ble_eq_true rfl)⟩ rfl (Nat.le_of_ble_eq_true rfl) dL_unscaled_4 (fun k9 hk9 => (inrl hk9).elim) (fun vr hv H locs hs => ?_)
    obtain rfl := Sum.inr.inj hv
    refine W.eq (g2 := F0 m 7 ls [.long x2, .int 0, .ref a2]) rfl ?_
    refine W.widen (k := 0) (n := 0) (Nat.le_of_ble_eq_true rfl) (Nat.le_of_ble_eq_true rfl) ?_
    replace h := ob h; obtain ⟨τ7, eτ7, h⟩ := h
    refine sx_last C hs eτ7 dL_unscaled_7 (fun H locs hs => ?_)
    refine lv_goto (tgt := 17) C.1 C.2.1 dL_unscaled_8 (by decide) ?_
    refine lv_iconst (v := 0) C.1 C.2.1 dL_unscaled_17 (by decide) ?_
    cases h
    refine W.widen (k := 1) (n := 6) (Nat.le_of_ble_eq_true rfl) (Nat.le_of_ble_eq_true rfl) ?_
    exact sx_iretG C hs hr rfl dL_unscaled_18
def f_L_scale (σ : Sto) (sz : Nat) (a0 : Nat) (v1 : Int32) (a2 : Nat) : Option (Int32 × Sto × Nat) :=
 (isO σ a0 10).bind fun _ =>
 (f_X11_scale σ a0 v1).bind fun u3 =>
 bs u3 (fun j4 => if j4 = 0 then some (1, σ, sz) else if j4 = 2 then some (2, σ, sz) else none) fun x2 =>
 (sL σ a2 2 0 (Int32.toInt64 x2)).bind fun τ7 =>
 some (0, τ7, sz)
set_option maxHeartbeats 4000000 in
set_option maxRecDepth 100000 in
theorem c_L_scale {l : Launch} (hfl : l.stackTraces = false) {g : PP} {σ : Sto} {sz : Nat} {a0 : Nat} {v1 : Int32} {a2 : Nat} {r9 : Int32} {σ9 : Sto} {sz9 : Nat} (h : f_L_scale σ sz a0 v1 a2 = some (r9, σ9, sz9)) : Met l yL_scale [Cond.codeWith yL_scale cL_scale 4 (some .int) [(0, 9, 12, 13), (0, 9, 15, 33)]] (rmk 8 1 6 143) (Pre g σ sz [.ref a0, .int v1, .ref a2]) (PstG g (vI r9) σ9 sz9) 1 6 (Aw g) := by
  refine va_MetW (hh := [(0, 9, 12, 13), (0, 9, 15, 33)]) (cc := cL_scale) (maxL := 4) (ret := (some .int)) (by decide) rfl ?_
  intro p e s m args below meth c s₁ B hml hv
  obtain ⟨rfl, C, hs⟩ := ctx_of B hml hv
  have C : Cx g p s m meth c cL_scale 4 "TillhouseLaw" := C
  have hr := B.returns
  have tb := vx_table (x := yL_scale) B (C.2.2.2.2.1.1 _ cw_L_scale _)
  have hl := lv_entry ([.ref a0, .int v1, .ref a2]) (n := 4) (Nat.le_of_ble_eq_true rfl)
  rw [lg_entry_eq]
  generalize (lg_sl ([.ref a0, .int v1, .ref a2]) ++ List.replicate (4 - (lg_sl ([.ref a0, .int v1, .ref a2])).length) Slot.unset).toArray = ls at hl ⊢
  have hl : lv_has ls 4 [(0, .ref a0), (1, .int v1), (2, .ref a2)] := hl
  unfold f_L_scale at h
  refine lv_aload_n C.1 C.2.1 dL_scale_0 rfl (lv_at hl 2 rfl) ?_
  refine lv_iconst (v := 0) C.1 C.2.1 dL_scale_1 (by decide) ?_
  refine lv_aload_n C.1 C.2.1 dL_scale_2 rfl (lv_at hl 0 rfl) ?_
  refine lv_iload_n C.1 C.2.1 dL_scale_3 rfl (lv_at hl 1 rfl) ?_
  replace h := ob h; obtain ⟨⟨⟩, i1, h⟩ := h
  replace h := ob h; obtain ⟨u3, ex2, h⟩ := h
  rcases u3 with j4 | x2
  · replace h := bsl h
    rcases Decidable.em (j4 = 0) with c5 | c5
    · replace h := ip c5 h
      subst c5
      cases h
      refine sx_xcallV (As := [.int v1]) (rest := [.int 0, .ref a2]) C hs (c_X11_scale hfl ex2) mo_X11_scale q597 i1 rfl rfl hl.1 ⟨⟨(Nat.le_of_ble_eq_true rfl), (Nat.le_of_ble_eq_true rfl)⟩, (Nat.le_of_ble_eq_true rfl), (Nat.le_of_ble_eq_true rfl)⟩ rfl (Nat.le_of_ble_eq_true rfl) dL_scale_4 (fun k9 hk9 ce q9 H locs f1 f2 f3 f4 f5 f6 => ?_) (fun vr hv => (inlr hv).elim)
      obtain rfl := Sum.inl.inj hk9
      refine sx_catch (k := 0) (hp := []) (hs9 := [(0, 9, 15, 33)]) (a9 := 0) (b9 := 9) (h9 := 12) (d9 := 13) C tb (fun _ h => nomatch h) (by decide) (by decide) q339 f4 f5 f6 ?_
      refine lv_astore_n (lv' := [(3, .ref q9), (0, .ref a0), (1, .int v1), (2, .ref a2)]) C.1 C.2.1 dL_scale_12 rfl hl (by decide) rfl (fun ls hl => ?_)
      refine lv_iconst (v := 1) C.1 C.2.1 dL_scale_13 (by decide) ?_
      refine W.widen (k := 1) (n := 6) (Nat.le_of_ble_eq_true rfl) (Nat.le_of_ble_eq_true rfl) ?_
      exact sx_iretK C f1 f2 f3 hr rfl dL_scale_14
    · replace h := iN c5 h
      rcases Decidable.em (j4 = 2) with c6 | c6
      · replace h := ip c6 h
        subst c6
        cases h
        refine sx_xcallV (As := [.int v1]) (rest := [.int 0, .ref a2]) C hs (c_X11_scale hfl ex2) mo_X11_scale q597 i1 rfl rfl hl.1 ⟨⟨(Nat.le_of_ble_eq_true rfl), (Nat.le_of_ble_eq_true rfl)⟩, (Nat.le_of_ble_eq_true rfl), (Nat.le_of_ble_eq_true rfl)⟩ rfl (Nat.le_of_ble_eq_true rfl) dL_scale_4 (fun k9 hk9 ce q9 H locs f1 f2 f3 f4 f5 f6 => ?_) (fun vr hv => (inlr hv).elim)
        obtain rfl := Sum.inl.inj hk9
        refine sx_catch (k := 2) (hp := [(0, 9, 12, 13)]) (hs9 := []) (a9 := 0) (b9 := 9) (h9 := 15) (d9 := 33) C tb (List.forall_mem_cons.mpr ⟨⟨by decide, 0, q339, by decide⟩, (fun _ h => nomatch h)⟩) (by decide) (by decide) q569 f4 f5 f6 ?_
        refine lv_astore_n (lv' := [(3, .ref q9), (0, .ref a0), (1, .int v1), (2, .ref a2)]) C.1 C.2.1 dL_scale_15 rfl hl (by decide) rfl (fun ls hl => ?_)
        refine lv_iconst (v := 2) C.1 C.2.1 dL_scale_16 (by decide) ?_
        refine W.widen (k := 1) (n := 6) (Nat.le_of_ble_eq_true rfl) (Nat.le_of_ble_eq_true rfl) ?_
        exact sx_iretK C f1 f2 f3 hr rfl dL_scale_17
      · replace h := iN c6 h
        cases h
  · replace h := bsr h
    refine sx_xcallV (As := [.int v1]) (rest := [.int 0, .ref a2]) C hs (c_X11_scale hfl ex2) mo_X11_scale q597 i1 rfl rfl hl.1 ⟨⟨(Nat.le_of_ble_eq_true rfl), (Nat.le_of_ble_eq_true rfl)⟩, (Nat.le_of_ble_eq_true rfl), (Nat.le_of_ble_eq_true rfl)⟩ rfl (Nat.le_of_ble_eq_true rfl) dL_scale_4 (fun k9 hk9 => (inrl hk9).elim) (fun vr hv H locs hs => ?_)
    obtain rfl := Sum.inr.inj hv
    refine W.eq (g2 := F0 m 7 ls [.int x2, .int 0, .ref a2]) rfl ?_
    refine W.widen (k := 0) (n := 0) (Nat.le_of_ble_eq_true rfl) (Nat.le_of_ble_eq_true rfl) ?_
    refine lv_i2l (v := Int32.toInt64 x2) C.1 C.2.1 dL_scale_7 rfl ?_
    replace h := ob h; obtain ⟨τ7, eτ7, h⟩ := h
    refine sx_last C hs eτ7 dL_scale_8 (fun H locs hs => ?_)
    refine lv_goto (tgt := 18) C.1 C.2.1 dL_scale_9 (by decide) ?_
    refine lv_iconst (v := 0) C.1 C.2.1 dL_scale_18 (by decide) ?_
    cases h
    refine W.widen (k := 1) (n := 6) (Nat.le_of_ble_eq_true rfl) (Nat.le_of_ble_eq_true rfl) ?_
    exact sx_iretG C hs hr rfl dL_scale_19
def f_L_precision (N : Nat) (σ : Sto) (sz : Nat) (a0 : Nat) (v1 : Int32) (a2 : Nat) : Option (Int32 × Sto × Nat) :=
 (isO σ a0 10).bind fun _ =>
 (f_X11_precision N σ a0 v1).bind fun u3 =>
 bs u3 (fun j4 => if j4 = 0 then some (1, σ, sz) else if j4 = 2 then some (2, σ, sz) else none) fun x2 =>
 (sL σ a2 2 0 (Int32.toInt64 x2)).bind fun τ7 =>
 some (0, τ7, sz)
set_option maxHeartbeats 4000000 in
set_option maxRecDepth 100000 in
theorem c_L_precision {l : Launch} (hfl : l.stackTraces = false) {g : PP} {N : Nat} {σ : Sto} {sz : Nat} {a0 : Nat} {v1 : Int32} {a2 : Nat} {r9 : Int32} {σ9 : Sto} {sz9 : Nat} (h : f_L_precision N σ sz a0 v1 a2 = some (r9, σ9, sz9)) : Met l yL_precision [Cond.codeWith yL_precision cL_precision 4 (some .int) [(0, 9, 12, 13), (0, 9, 15, 33)]] (rmk 8 1 6 144) (Pre g σ sz [.ref a0, .int v1, .ref a2]) (PstG g (vI r9) σ9 sz9) 1 6 (Aw g) := by
  refine va_MetW (hh := [(0, 9, 12, 13), (0, 9, 15, 33)]) (cc := cL_precision) (maxL := 4) (ret := (some .int)) (by decide) rfl ?_
  intro p e s m args below meth c s₁ B hml hv
  obtain ⟨rfl, C, hs⟩ := ctx_of B hml hv
  have C : Cx g p s m meth c cL_precision 4 "TillhouseLaw" := C
  have hr := B.returns
  have tb := vx_table (x := yL_precision) B (C.2.2.2.2.1.1 _ cw_L_precision _)
  have hl := lv_entry ([.ref a0, .int v1, .ref a2]) (n := 4) (Nat.le_of_ble_eq_true rfl)
  rw [lg_entry_eq]
  generalize (lg_sl ([.ref a0, .int v1, .ref a2]) ++ List.replicate (4 - (lg_sl ([.ref a0, .int v1, .ref a2])).length) Slot.unset).toArray = ls at hl ⊢
  have hl : lv_has ls 4 [(0, .ref a0), (1, .int v1), (2, .ref a2)] := hl
  unfold f_L_precision at h
  refine lv_aload_n C.1 C.2.1 dL_precision_0 rfl (lv_at hl 2 rfl) ?_
  refine lv_iconst (v := 0) C.1 C.2.1 dL_precision_1 (by decide) ?_
  refine lv_aload_n C.1 C.2.1 dL_precision_2 rfl (lv_at hl 0 rfl) ?_
  refine lv_iload_n C.1 C.2.1 dL_precision_3 rfl (lv_at hl 1 rfl) ?_
  replace h := ob h; obtain ⟨⟨⟩, i1, h⟩ := h
  replace h := ob h; obtain ⟨u3, ex2, h⟩ := h
  rcases u3 with j4 | x2
  · replace h := bsl h
    rcases Decidable.em (j4 = 0) with c5 | c5
    · replace h := ip c5 h
      subst c5
      cases h
      refine sx_xcallV (As := [.int v1]) (rest := [.int 0, .ref a2]) C hs (c_X11_precision hfl ex2) mo_X11_precision q604 i1 rfl rfl hl.1 ⟨⟨(Nat.le_of_ble_eq_true rfl), (Nat.le_of_ble_eq_true rfl)⟩, (Nat.le_of_ble_eq_true rfl), (Nat.le_of_ble_eq_true rfl)⟩ rfl (Nat.le_of_ble_eq_true rfl) dL_precision_4 (fun k9 hk9 ce q9 H locs f1 f2 f3 f4 f5 f6 => ?_) (fun vr hv => (inlr hv).elim)
      obtain rfl := Sum.inl.inj hk9
      refine sx_catch (k := 0) (hp := []) (hs9 := [(0, 9, 15, 33)]) (a9 := 0) (b9 := 9) (h9 := 12) (d9 := 13) C tb (fun _ h => nomatch h) (by decide) (by decide) q339 f4 f5 f6 ?_
      refine lv_astore_n (lv' := [(3, .ref q9), (0, .ref a0), (1, .int v1), (2, .ref a2)]) C.1 C.2.1 dL_precision_12 rfl hl (by decide) rfl (fun ls hl => ?_)
      refine lv_iconst (v := 1) C.1 C.2.1 dL_precision_13 (by decide) ?_
      refine W.widen (k := 1) (n := 6) (Nat.le_of_ble_eq_true rfl) (Nat.le_of_ble_eq_true rfl) ?_
      exact sx_iretK C f1 f2 f3 hr rfl dL_precision_14
    · replace h := iN c5 h
      rcases Decidable.em (j4 = 2) with c6 | c6
      · replace h := ip c6 h
        subst c6
        cases h
        refine sx_xcallV (As := [.int v1]) (rest := [.int 0, .ref a2]) C hs (c_X11_precision hfl ex2) mo_X11_precision q604 i1 rfl rfl hl.1 ⟨⟨(Nat.le_of_ble_eq_true rfl), (Nat.le_of_ble_eq_true rfl)⟩, (Nat.le_of_ble_eq_true rfl), (Nat.le_of_ble_eq_true rfl)⟩ rfl (Nat.le_of_ble_eq_true rfl) dL_precision_4 (fun k9 hk9 ce q9 H locs f1 f2 f3 f4 f5 f6 => ?_) (fun vr hv => (inlr hv).elim)
        obtain rfl := Sum.inl.inj hk9
        refine sx_catch (k := 2) (hp := [(0, 9, 12, 13)]) (hs9 := []) (a9 := 0) (b9 := 9) (h9 := 15) (d9 := 33) C tb (List.forall_mem_cons.mpr ⟨⟨by decide, 0, q339, by decide⟩, (fun _ h => nomatch h)⟩) (by decide) (by decide) q569 f4 f5 f6 ?_
        refine lv_astore_n (lv' := [(3, .ref q9), (0, .ref a0), (1, .int v1), (2, .ref a2)]) C.1 C.2.1 dL_precision_15 rfl hl (by decide) rfl (fun ls hl => ?_)
        refine lv_iconst (v := 2) C.1 C.2.1 dL_precision_16 (by decide) ?_
        refine W.widen (k := 1) (n := 6) (Nat.le_of_ble_eq_true rfl) (Nat.le_of_ble_eq_true rfl) ?_
        exact sx_iretK C f1 f2 f3 hr rfl dL_precision_17
      · replace h := iN c6 h
        cases h
  · replace h := bsr h
    refine sx_xcallV (As := [.int v1]) (rest := [.int 0, .ref a2]) C hs (c_X11_precision hfl ex2) mo_X11_precision q604 i1 rfl rfl hl.1 ⟨⟨(Nat.le_of_ble_eq_true rfl), (Nat.le_of_ble_eq_true rfl)⟩, (Nat.le_of_ble_eq_true rfl), (Nat.le_of_ble_eq_true rfl)⟩ rfl (Nat.le_of_ble_eq_true rfl) dL_precision_4 (fun k9 hk9 => (inrl hk9).elim) (fun vr hv H locs hs => ?_)
    obtain rfl := Sum.inr.inj hv
    refine W.eq (g2 := F0 m 7 ls [.int x2, .int 0, .ref a2]) rfl ?_
    refine W.widen (k := 0) (n := 0) (Nat.le_of_ble_eq_true rfl) (Nat.le_of_ble_eq_true rfl) ?_
    refine lv_i2l (v := Int32.toInt64 x2) C.1 C.2.1 dL_precision_7 rfl ?_
    replace h := ob h; obtain ⟨τ7, eτ7, h⟩ := h
    refine sx_last C hs eτ7 dL_precision_8 (fun H locs hs => ?_)
    refine lv_goto (tgt := 18) C.1 C.2.1 dL_precision_9 (by decide) ?_
    refine lv_iconst (v := 0) C.1 C.2.1 dL_precision_18 (by decide) ?_
    cases h
    refine W.widen (k := 1) (n := 6) (Nat.le_of_ble_eq_true rfl) (Nat.le_of_ble_eq_true rfl) ?_
    exact sx_iretG C hs hr rfl dL_precision_19
def f_L_join (N : Nat) (σ : Sto) (sz : Nat) (a0 : Nat) (v1 : Int32) (v2 : Int32) (v3 : Int32) (v4 : Int32) (a5 : Nat) : Option (Int32 × Sto × Nat) :=
 (isO σ a0 10).bind fun _ =>
 b3 (f_X11_join N σ sz a0 v1 v2 v3 v4) fun u5 τ3 y4 =>
 bs u5 (fun j6 => if j6 = 0 then some (1, τ3, y4) else if j6 = 1 then some (2, τ3, y4) else if j6 = 2 then some (3, τ3, y4) else if j6 = 3 then some (4, τ3, y4) else none) fun x2 =>
 (sL τ3 a5 2 0 (Int32.toInt64 x2)).bind fun τ11 =>
 some (0, τ11, y4)
set_option maxHeartbeats 4000000 in
set_option maxRecDepth 100000 in
theorem c_L_join {l : Launch} (hfl : l.stackTraces = false) {g : PP} {N : Nat} {σ : Sto} {sz : Nat} {a0 : Nat} {v1 : Int32} {v2 : Int32} {v3 : Int32} {v4 : Int32} {a5 : Nat} {r9 : Int32} {σ9 : Sto} {sz9 : Nat} (h : f_L_join N σ sz a0 v1 v2 v3 v4 a5 = some (r9, σ9, sz9)) : Met l yL_join [Cond.codeWith yL_join cL_join 7 (some .int) [(0, 14, 17, 13), (0, 14, 21, 15), (0, 14, 25, 33), (0, 14, 29, 27)]] (rmk 12 1 6 243) (Pre g σ sz [.ref a0, .int v1, .int v2, .int v3, .int v4, .ref a5]) (PstG g (vI r9) σ9 sz9) 1 6 (Aw g) := by
  refine va_MetW (hh := [(0, 14, 17, 13), (0, 14, 21, 15), (0, 14, 25, 33), (0, 14, 29, 27)]) (cc := cL_join) (maxL := 7) (ret := (some .int)) (by decide) rfl ?_
  intro p e s m args below meth c s₁ B hml hv
  obtain ⟨rfl, C, hs⟩ := ctx_of B hml hv
  have C : Cx g p s m meth c cL_join 7 "TillhouseLaw" := C
  have hr := B.returns
  have tb := vx_table (x := yL_join) B (C.2.2.2.2.1.1 _ cw_L_join _)
  have hl := lv_entry ([.ref a0, .int v1, .int v2, .int v3, .int v4, .ref a5]) (n := 7) (Nat.le_of_ble_eq_true rfl)
  rw [lg_entry_eq]
  generalize (lg_sl ([.ref a0, .int v1, .int v2, .int v3, .int v4, .ref a5]) ++ List.replicate (7 - (lg_sl ([.ref a0, .int v1, .int v2, .int v3, .int v4, .ref a5])).length) Slot.unset).toArray = ls at hl ⊢
  have hl : lv_has ls 7 [(0, .ref a0), (1, .int v1), (2, .int v2), (3, .int v3), (4, .int v4), (5, .ref a5)] := hl
  unfold f_L_join at h
  refine lv_aload C.1 C.2.1 dL_join_0 (lv_at hl 5 rfl) ?_
  refine lv_iconst (v := 0) C.1 C.2.1 dL_join_2 (by decide) ?_
  refine lv_aload_n C.1 C.2.1 dL_join_3 rfl (lv_at hl 0 rfl) ?_
  refine lv_iload_n C.1 C.2.1 dL_join_4 rfl (lv_at hl 1 rfl) ?_
  refine lv_iload_n C.1 C.2.1 dL_join_5 rfl (lv_at hl 2 rfl) ?_
  refine lv_iload_n C.1 C.2.1 dL_join_6 rfl (lv_at hl 3 rfl) ?_
  refine lv_iload C.1 C.2.1 dL_join_7 (lv_at hl 4 rfl) ?_
  replace h := ob h; obtain ⟨⟨⟩, i1, h⟩ := h
  replace h := ob3 h; obtain ⟨u5, τ3, y4, ex2, h⟩ := h
  rcases u5 with j6 | x2
  · replace h := bsl h
    rcases Decidable.em (j6 = 0) with c7 | c7
    · replace h := ip c7 h
      subst c7
      cases h
      refine sx_xcallV (As := [.int v1, .int v2, .int v3, .int v4]) (rest := [.int 0, .ref a5]) C hs (c_X11_join hfl ex2) mo_X11_join q615 i1 rfl rfl hl.1 ⟨⟨(Nat.le_of_ble_eq_true rfl), (Nat.le_of_ble_eq_true rfl)⟩, (Nat.le_of_ble_eq_true rfl), (Nat.le_of_ble_eq_true rfl)⟩ rfl (Nat.le_of_ble_eq_true rfl) dL_join_9 (fun k9 hk9 ce q9 H locs f1 f2 f3 f4 f5 f6 => ?_) (fun vr hv => (inlr hv).elim)
      obtain rfl := Sum.inl.inj hk9
      refine sx_catch (k := 0) (hp := []) (hs9 := [(0, 14, 21, 15), (0, 14, 25, 33), (0, 14, 29, 27)]) (a9 := 0) (b9 := 14) (h9 := 17) (d9 := 13) C tb (fun _ h => nomatch h) (by decide) (by decide) q339 f4 f5 f6 ?_
      refine lv_astore (lv' := [(6, .ref q9), (0, .ref a0), (1, .int v1), (2, .int v2), (3, .int v3), (4, .int v4), (5, .ref a5)]) C.1 C.2.1 dL_join_17 hl (by decide) rfl (fun ls hl => ?_)
      refine lv_iconst (v := 1) C.1 C.2.1 dL_join_19 (by decide) ?_
      refine W.widen (k := 1) (n := 6) (Nat.le_of_ble_eq_true rfl) (Nat.le_of_ble_eq_true rfl) ?_
      exact sx_iretK C f1 f2 f3 hr rfl dL_join_20
    · replace h := iN c7 h
      rcases Decidable.em (j6 = 1) with c8 | c8
      · replace h := ip c8 h
        subst c8
        cases h
        refine sx_xcallV (As := [.int v1, .int v2, .int v3, .int v4]) (rest := [.int 0, .ref a5]) C hs (c_X11_join hfl ex2) mo_X11_join q615 i1 rfl rfl hl.1 ⟨⟨(Nat.le_of_ble_eq_true rfl), (Nat.le_of_ble_eq_true rfl)⟩, (Nat.le_of_ble_eq_true rfl), (Nat.le_of_ble_eq_true rfl)⟩ rfl (Nat.le_of_ble_eq_true rfl) dL_join_9 (fun k9 hk9 ce q9 H locs f1 f2 f3 f4 f5 f6 => ?_) (fun vr hv => (inlr hv).elim)
        obtain rfl := Sum.inl.inj hk9
        refine sx_catch (k := 1) (hp := [(0, 14, 17, 13)]) (hs9 := [(0, 14, 25, 33), (0, 14, 29, 27)]) (a9 := 0) (b9 := 14) (h9 := 21) (d9 := 15) C tb (List.forall_mem_cons.mpr ⟨⟨by decide, 0, q339, by decide⟩, (fun _ h => nomatch h)⟩) (by decide) (by decide) q419 f4 f5 f6 ?_
        refine lv_astore (lv' := [(6, .ref q9), (0, .ref a0), (1, .int v1), (2, .int v2), (3, .int v3), (4, .int v4), (5, .ref a5)]) C.1 C.2.1 dL_join_21 hl (by decide) rfl (fun ls hl => ?_)
        refine lv_iconst (v := 2) C.1 C.2.1 dL_join_23 (by decide) ?_
        refine W.widen (k := 1) (n := 6) (Nat.le_of_ble_eq_true rfl) (Nat.le_of_ble_eq_true rfl) ?_
        exact sx_iretK C f1 f2 f3 hr rfl dL_join_24
      · replace h := iN c8 h
        rcases Decidable.em (j6 = 2) with c9 | c9
        · replace h := ip c9 h
          subst c9
          cases h
          refine sx_xcallV (As := [.int v1, .int v2, .int v3, .int v4]) (rest := [.int 0, .ref a5]) C hs (c_X11_join hfl ex2) mo_X11_join q615 i1 rfl rfl hl.1 ⟨⟨(Nat.le_of_ble_eq_true rfl), (Nat.le_of_ble_eq_true rfl)⟩, (Nat.le_of_ble_eq_true rfl), (Nat.le_of_ble_eq_true rfl)⟩ rfl (Nat.le_of_ble_eq_true rfl) dL_join_9 (fun k9 hk9 ce q9 H locs f1 f2 f3 f4 f5 f6 => ?_) (fun vr hv => (inlr hv).elim)
          obtain rfl := Sum.inl.inj hk9
          refine sx_catch (k := 2) (hp := [(0, 14, 17, 13), (0, 14, 21, 15)]) (hs9 := [(0, 14, 29, 27)]) (a9 := 0) (b9 := 14) (h9 := 25) (d9 := 33) C tb (List.forall_mem_cons.mpr ⟨⟨by decide, 0, q339, by decide⟩, (List.forall_mem_cons.mpr ⟨⟨by decide, 1, q419, by decide⟩, (fun _ h => nomatch h)⟩)⟩) (by decide) (by decide) q569 f4 f5 f6 ?_
          refine lv_astore (lv' := [(6, .ref q9), (0, .ref a0), (1, .int v1), (2, .int v2), (3, .int v3), (4, .int v4), (5, .ref a5)]) C.1 C.2.1 dL_join_25 hl (by decide) rfl (fun ls hl => ?_)
          refine lv_iconst (v := 3) C.1 C.2.1 dL_join_27 (by decide) ?_
          refine W.widen (k := 1) (n := 6) (Nat.le_of_ble_eq_true rfl) (Nat.le_of_ble_eq_true rfl) ?_
          exact sx_iretK C f1 f2 f3 hr rfl dL_join_28
        · replace h := iN c9 h
          rcases Decidable.em (j6 = 3) with c10 | c10
          · replace h := ip c10 h
            subst c10
            cases h
            refine sx_xcallV (As := [.int v1, .int v2, .int v3, .int v4]) (rest := [.int 0, .ref a5]) C hs (c_X11_join hfl ex2) mo_X11_join q615 i1 rfl rfl hl.1 ⟨⟨(Nat.le_of_ble_eq_true rfl), (Nat.le_of_ble_eq_true rfl)⟩, (Nat.le_of_ble_eq_true rfl), (Nat.le_of_ble_eq_true rfl)⟩ rfl (Nat.le_of_ble_eq_true rfl) dL_join_9 (fun k9 hk9 ce q9 H locs f1 f2 f3 f4 f5 f6 => ?_) (fun vr hv => (inlr hv).elim)
            obtain rfl := Sum.inl.inj hk9
            refine sx_catch (k := 3) (hp := [(0, 14, 17, 13), (0, 14, 21, 15), (0, 14, 25, 33)]) (hs9 := []) (a9 := 0) (b9 := 14) (h9 := 29) (d9 := 27) C tb (List.forall_mem_cons.mpr ⟨⟨by decide, 0, q339, by decide⟩, (List.forall_mem_cons.mpr ⟨⟨by decide, 1, q419, by decide⟩, (List.forall_mem_cons.mpr ⟨⟨by decide, 2, q569, by decide⟩, (fun _ h => nomatch h)⟩)⟩)⟩) (by decide) (by decide) q526 f4 f5 f6 ?_
            refine lv_astore (lv' := [(6, .ref q9), (0, .ref a0), (1, .int v1), (2, .int v2), (3, .int v3), (4, .int v4), (5, .ref a5)]) C.1 C.2.1 dL_join_29 hl (by decide) rfl (fun ls hl => ?_)
            refine lv_iconst (v := 4) C.1 C.2.1 dL_join_31 (by decide) ?_
            refine W.widen (k := 1) (n := 6) (Nat.le_of_ble_eq_true rfl) (Nat.le_of_ble_eq_true rfl) ?_
            exact sx_iretK C f1 f2 f3 hr rfl dL_join_32
          · replace h := iN c10 h
            cases h
  · replace h := bsr h
    refine sx_xcallV (As := [.int v1, .int v2, .int v3, .int v4]) (rest := [.int 0, .ref a5]) C hs (c_X11_join hfl ex2) mo_X11_join q615 i1 rfl rfl hl.1 ⟨⟨(Nat.le_of_ble_eq_true rfl), (Nat.le_of_ble_eq_true rfl)⟩, (Nat.le_of_ble_eq_true rfl), (Nat.le_of_ble_eq_true rfl)⟩ rfl (Nat.le_of_ble_eq_true rfl) dL_join_9 (fun k9 hk9 => (inrl hk9).elim) (fun vr hv H locs hs => ?_)
    obtain rfl := Sum.inr.inj hv
    refine W.eq (g2 := F0 m 12 ls [.int x2, .int 0, .ref a5]) rfl ?_
    refine W.widen (k := 1) (n := 6) (Nat.le_of_ble_eq_true rfl) (Nat.le_of_ble_eq_true rfl) ?_
    refine lv_i2l (v := Int32.toInt64 x2) C.1 C.2.1 dL_join_12 rfl ?_
    replace h := ob h; obtain ⟨τ11, eτ11, h⟩ := h
    refine sx_last C hs eτ11 dL_join_13 (fun H locs hs => ?_)
    refine lv_goto (tgt := 33) C.1 C.2.1 dL_join_14 (by decide) ?_
    refine lv_iconst (v := 0) C.1 C.2.1 dL_join_33 (by decide) ?_
    cases h
    exact sx_iretG C hs hr rfl dL_join_34
def f_L_turn (N : Nat) (σ : Sto) (sz : Nat) (a0 : Nat) (v1 : Int32) (v2 : Int32) (v3 : Int32) (a4 : Nat) : Option (Int32 × Sto × Nat) :=
 (isO σ a0 10).bind fun _ =>
 b3 (f_X11_turn N σ sz a0 v1 v2 v3) fun u5 τ3 y4 =>
 bs u5 (fun j6 => if j6 = 0 then some (1, τ3, y4) else if j6 = 1 then some (2, τ3, y4) else if j6 = 2 then some (3, τ3, y4) else if j6 = 3 then some (4, τ3, y4) else none) fun x2 =>
 (sL τ3 a4 2 0 (Int32.toInt64 x2)).bind fun τ11 =>
 some (0, τ11, y4)
set_option maxHeartbeats 4000000 in
set_option maxRecDepth 100000 in
theorem c_L_turn {l : Launch} (hfl : l.stackTraces = false) {g : PP} {N : Nat} {σ : Sto} {sz : Nat} {a0 : Nat} {v1 : Int32} {v2 : Int32} {v3 : Int32} {a4 : Nat} {r9 : Int32} {σ9 : Sto} {sz9 : Nat} (h : f_L_turn N σ sz a0 v1 v2 v3 a4 = some (r9, σ9, sz9)) : Met l yL_turn [Cond.codeWith yL_turn cL_turn 6 (some .int) [(0, 12, 15, 13), (0, 12, 19, 15), (0, 12, 23, 33), (0, 12, 27, 27)]] (rmk 10 1 6 190) (Pre g σ sz [.ref a0, .int v1, .int v2, .int v3, .ref a4]) (PstG g (vI r9) σ9 sz9) 1 6 (Aw g) := by
  refine va_MetW (hh := [(0, 12, 15, 13), (0, 12, 19, 15), (0, 12, 23, 33), (0, 12, 27, 27)]) (cc := cL_turn) (maxL := 6) (ret := (some .int)) (by decide) rfl ?_
  intro p e s m args below meth c s₁ B hml hv
  obtain ⟨rfl, C, hs⟩ := ctx_of B hml hv
  have C : Cx g p s m meth c cL_turn 6 "TillhouseLaw" := C
  have hr := B.returns
  have tb := vx_table (x := yL_turn) B (C.2.2.2.2.1.1 _ cw_L_turn _)
  have hl := lv_entry ([.ref a0, .int v1, .int v2, .int v3, .ref a4]) (n := 6) (Nat.le_of_ble_eq_true rfl)
  rw [lg_entry_eq]
  generalize (lg_sl ([.ref a0, .int v1, .int v2, .int v3, .ref a4]) ++ List.replicate (6 - (lg_sl ([.ref a0, .int v1, .int v2, .int v3, .ref a4])).length) Slot.unset).toArray = ls at hl ⊢
  have hl : lv_has ls 6 [(0, .ref a0), (1, .int v1), (2, .int v2), (3, .int v3), (4, .ref a4)] := hl
  unfold f_L_turn at h
  refine lv_aload C.1 C.2.1 dL_turn_0 (lv_at hl 4 rfl) ?_
  refine lv_iconst (v := 0) C.1 C.2.1 dL_turn_2 (by decide) ?_
  refine lv_aload_n C.1 C.2.1 dL_turn_3 rfl (lv_at hl 0 rfl) ?_
  refine lv_iload_n C.1 C.2.1 dL_turn_4 rfl (lv_at hl 1 rfl) ?_
  refine lv_iload_n C.1 C.2.1 dL_turn_5 rfl (lv_at hl 2 rfl) ?_
  refine lv_iload_n C.1 C.2.1 dL_turn_6 rfl (lv_at hl 3 rfl) ?_
  replace h := ob h; obtain ⟨⟨⟩, i1, h⟩ := h
  replace h := ob3 h; obtain ⟨u5, τ3, y4, ex2, h⟩ := h
  rcases u5 with j6 | x2
  · replace h := bsl h
    rcases Decidable.em (j6 = 0) with c7 | c7
    · replace h := ip c7 h
      subst c7
      cases h
      refine sx_xcallV (As := [.int v1, .int v2, .int v3]) (rest := [.int 0, .ref a4]) C hs (c_X11_turn hfl ex2) mo_X11_turn q665 i1 rfl rfl hl.1 ⟨⟨(Nat.le_of_ble_eq_true rfl), (Nat.le_of_ble_eq_true rfl)⟩, (Nat.le_of_ble_eq_true rfl), (Nat.le_of_ble_eq_true rfl)⟩ rfl (Nat.le_of_ble_eq_true rfl) dL_turn_7 (fun k9 hk9 ce q9 H locs f1 f2 f3 f4 f5 f6 => ?_) (fun vr hv => (inlr hv).elim)
      obtain rfl := Sum.inl.inj hk9
      refine sx_catch (k := 0) (hp := []) (hs9 := [(0, 12, 19, 15), (0, 12, 23, 33), (0, 12, 27, 27)]) (a9 := 0) (b9 := 12) (h9 := 15) (d9 := 13) C tb (fun _ h => nomatch h) (by decide) (by decide) q339 f4 f5 f6 ?_
      refine lv_astore (lv' := [(5, .ref q9), (0, .ref a0), (1, .int v1), (2, .int v2), (3, .int v3), (4, .ref a4)]) C.1 C.2.1 dL_turn_15 hl (by decide) rfl (fun ls hl => ?_)
      refine lv_iconst (v := 1) C.1 C.2.1 dL_turn_17 (by decide) ?_
      refine W.widen (k := 1) (n := 6) (Nat.le_of_ble_eq_true rfl) (Nat.le_of_ble_eq_true rfl) ?_
      exact sx_iretK C f1 f2 f3 hr rfl dL_turn_18
    · replace h := iN c7 h
      rcases Decidable.em (j6 = 1) with c8 | c8
      · replace h := ip c8 h
        subst c8
        cases h
        refine sx_xcallV (As := [.int v1, .int v2, .int v3]) (rest := [.int 0, .ref a4]) C hs (c_X11_turn hfl ex2) mo_X11_turn q665 i1 rfl rfl hl.1 ⟨⟨(Nat.le_of_ble_eq_true rfl), (Nat.le_of_ble_eq_true rfl)⟩, (Nat.le_of_ble_eq_true rfl), (Nat.le_of_ble_eq_true rfl)⟩ rfl (Nat.le_of_ble_eq_true rfl) dL_turn_7 (fun k9 hk9 ce q9 H locs f1 f2 f3 f4 f5 f6 => ?_) (fun vr hv => (inlr hv).elim)
        obtain rfl := Sum.inl.inj hk9
        refine sx_catch (k := 1) (hp := [(0, 12, 15, 13)]) (hs9 := [(0, 12, 23, 33), (0, 12, 27, 27)]) (a9 := 0) (b9 := 12) (h9 := 19) (d9 := 15) C tb (List.forall_mem_cons.mpr ⟨⟨by decide, 0, q339, by decide⟩, (fun _ h => nomatch h)⟩) (by decide) (by decide) q419 f4 f5 f6 ?_
        refine lv_astore (lv' := [(5, .ref q9), (0, .ref a0), (1, .int v1), (2, .int v2), (3, .int v3), (4, .ref a4)]) C.1 C.2.1 dL_turn_19 hl (by decide) rfl (fun ls hl => ?_)
        refine lv_iconst (v := 2) C.1 C.2.1 dL_turn_21 (by decide) ?_
        refine W.widen (k := 1) (n := 6) (Nat.le_of_ble_eq_true rfl) (Nat.le_of_ble_eq_true rfl) ?_
        exact sx_iretK C f1 f2 f3 hr rfl dL_turn_22
      · replace h := iN c8 h
        rcases Decidable.em (j6 = 2) with c9 | c9
        · replace h := ip c9 h
          subst c9
          cases h
          refine sx_xcallV (As := [.int v1, .int v2, .int v3]) (rest := [.int 0, .ref a4]) C hs (c_X11_turn hfl ex2) mo_X11_turn q665 i1 rfl rfl hl.1 ⟨⟨(Nat.le_of_ble_eq_true rfl), (Nat.le_of_ble_eq_true rfl)⟩, (Nat.le_of_ble_eq_true rfl), (Nat.le_of_ble_eq_true rfl)⟩ rfl (Nat.le_of_ble_eq_true rfl) dL_turn_7 (fun k9 hk9 ce q9 H locs f1 f2 f3 f4 f5 f6 => ?_) (fun vr hv => (inlr hv).elim)
          obtain rfl := Sum.inl.inj hk9
          refine sx_catch (k := 2) (hp := [(0, 12, 15, 13), (0, 12, 19, 15)]) (hs9 := [(0, 12, 27, 27)]) (a9 := 0) (b9 := 12) (h9 := 23) (d9 := 33) C tb (List.forall_mem_cons.mpr ⟨⟨by decide, 0, q339, by decide⟩, (List.forall_mem_cons.mpr ⟨⟨by decide, 1, q419, by decide⟩, (fun _ h => nomatch h)⟩)⟩) (by decide) (by decide) q569 f4 f5 f6 ?_
          refine lv_astore (lv' := [(5, .ref q9), (0, .ref a0), (1, .int v1), (2, .int v2), (3, .int v3), (4, .ref a4)]) C.1 C.2.1 dL_turn_23 hl (by decide) rfl (fun ls hl => ?_)
          refine lv_iconst (v := 3) C.1 C.2.1 dL_turn_25 (by decide) ?_
          refine W.widen (k := 1) (n := 6) (Nat.le_of_ble_eq_true rfl) (Nat.le_of_ble_eq_true rfl) ?_
          exact sx_iretK C f1 f2 f3 hr rfl dL_turn_26
        · replace h := iN c9 h
          rcases Decidable.em (j6 = 3) with c10 | c10
          · replace h := ip c10 h
            subst c10
            cases h
            refine sx_xcallV (As := [.int v1, .int v2, .int v3]) (rest := [.int 0, .ref a4]) C hs (c_X11_turn hfl ex2) mo_X11_turn q665 i1 rfl rfl hl.1 ⟨⟨(Nat.le_of_ble_eq_true rfl), (Nat.le_of_ble_eq_true rfl)⟩, (Nat.le_of_ble_eq_true rfl), (Nat.le_of_ble_eq_true rfl)⟩ rfl (Nat.le_of_ble_eq_true rfl) dL_turn_7 (fun k9 hk9 ce q9 H locs f1 f2 f3 f4 f5 f6 => ?_) (fun vr hv => (inlr hv).elim)
            obtain rfl := Sum.inl.inj hk9
            refine sx_catch (k := 3) (hp := [(0, 12, 15, 13), (0, 12, 19, 15), (0, 12, 23, 33)]) (hs9 := []) (a9 := 0) (b9 := 12) (h9 := 27) (d9 := 27) C tb (List.forall_mem_cons.mpr ⟨⟨by decide, 0, q339, by decide⟩, (List.forall_mem_cons.mpr ⟨⟨by decide, 1, q419, by decide⟩, (List.forall_mem_cons.mpr ⟨⟨by decide, 2, q569, by decide⟩, (fun _ h => nomatch h)⟩)⟩)⟩) (by decide) (by decide) q526 f4 f5 f6 ?_
            refine lv_astore (lv' := [(5, .ref q9), (0, .ref a0), (1, .int v1), (2, .int v2), (3, .int v3), (4, .ref a4)]) C.1 C.2.1 dL_turn_27 hl (by decide) rfl (fun ls hl => ?_)
            refine lv_iconst (v := 4) C.1 C.2.1 dL_turn_29 (by decide) ?_
            refine W.widen (k := 1) (n := 6) (Nat.le_of_ble_eq_true rfl) (Nat.le_of_ble_eq_true rfl) ?_
            exact sx_iretK C f1 f2 f3 hr rfl dL_turn_30
          · replace h := iN c10 h
            cases h
  · replace h := bsr h
    refine sx_xcallV (As := [.int v1, .int v2, .int v3]) (rest := [.int 0, .ref a4]) C hs (c_X11_turn hfl ex2) mo_X11_turn q665 i1 rfl rfl hl.1 ⟨⟨(Nat.le_of_ble_eq_true rfl), (Nat.le_of_ble_eq_true rfl)⟩, (Nat.le_of_ble_eq_true rfl), (Nat.le_of_ble_eq_true rfl)⟩ rfl (Nat.le_of_ble_eq_true rfl) dL_turn_7 (fun k9 hk9 => (inrl hk9).elim) (fun vr hv H locs hs => ?_)
    obtain rfl := Sum.inr.inj hv
    refine W.eq (g2 := F0 m 10 ls [.int x2, .int 0, .ref a4]) rfl ?_
    refine W.widen (k := 1) (n := 6) (Nat.le_of_ble_eq_true rfl) (Nat.le_of_ble_eq_true rfl) ?_
    refine lv_i2l (v := Int32.toInt64 x2) C.1 C.2.1 dL_turn_10 rfl ?_
    replace h := ob h; obtain ⟨τ11, eτ11, h⟩ := h
    refine sx_last C hs eτ11 dL_turn_11 (fun H locs hs => ?_)
    refine lv_goto (tgt := 31) C.1 C.2.1 dL_turn_12 (by decide) ?_
    refine lv_iconst (v := 0) C.1 C.2.1 dL_turn_31 (by decide) ?_
    cases h
    exact sx_iretG C hs hr rfl dL_turn_32
def f_L_move (σ : Sto) (sz : Nat) (a0 : Nat) (v1 : Int32) (v2 : Int32) (v3 : Int32) (a4 : Nat) : Option (Int32 × Sto × Nat) :=
 (isO σ a0 10).bind fun _ =>
 b3 (f_X11_move σ sz a0 v1 v2 v3) fun u5 τ3 y4 =>
 bs u5 (fun j6 => if j6 = 0 then some (1, τ3, y4) else if j6 = 1 then some (2, τ3, y4) else if j6 = 2 then some (3, τ3, y4) else if j6 = 3 then some (4, τ3, y4) else none) fun x2 =>
 (sL τ3 a4 2 0 (Int32.toInt64 x2)).bind fun τ11 =>
 some (0, τ11, y4)
set_option maxHeartbeats 4000000 in
set_option maxRecDepth 100000 in
theorem c_L_move {l : Launch} (hfl : l.stackTraces = false) {g : PP} {σ : Sto} {sz : Nat} {a0 : Nat} {v1 : Int32} {v2 : Int32} {v3 : Int32} {a4 : Nat} {r9 : Int32} {σ9 : Sto} {sz9 : Nat} (h : f_L_move σ sz a0 v1 v2 v3 a4 = some (r9, σ9, sz9)) : Met l yL_move [Cond.codeWith yL_move cL_move 6 (some .int) [(0, 12, 15, 13), (0, 12, 19, 15), (0, 12, 23, 33), (0, 12, 27, 27)]] (rmk 9 1 6 172) (Pre g σ sz [.ref a0, .int v1, .int v2, .int v3, .ref a4]) (PstG g (vI r9) σ9 sz9) 1 6 (Aw g) := by
  refine va_MetW (hh := [(0, 12, 15, 13), (0, 12, 19, 15), (0, 12, 23, 33), (0, 12, 27, 27)]) (cc := cL_move) (maxL := 6) (ret := (some .int)) (by decide) rfl ?_
  intro p e s m args below meth c s₁ B hml hv
  obtain ⟨rfl, C, hs⟩ := ctx_of B hml hv
  have C : Cx g p s m meth c cL_move 6 "TillhouseLaw" := C
  have hr := B.returns
  have tb := vx_table (x := yL_move) B (C.2.2.2.2.1.1 _ cw_L_move _)
  have hl := lv_entry ([.ref a0, .int v1, .int v2, .int v3, .ref a4]) (n := 6) (Nat.le_of_ble_eq_true rfl)
  rw [lg_entry_eq]
  generalize (lg_sl ([.ref a0, .int v1, .int v2, .int v3, .ref a4]) ++ List.replicate (6 - (lg_sl ([.ref a0, .int v1, .int v2, .int v3, .ref a4])).length) Slot.unset).toArray = ls at hl ⊢
  have hl : lv_has ls 6 [(0, .ref a0), (1, .int v1), (2, .int v2), (3, .int v3), (4, .ref a4)] := hl
  unfold f_L_move at h
  refine lv_aload C.1 C.2.1 dL_move_0 (lv_at hl 4 rfl) ?_
  refine lv_iconst (v := 0) C.1 C.2.1 dL_move_2 (by decide) ?_
  refine lv_aload_n C.1 C.2.1 dL_move_3 rfl (lv_at hl 0 rfl) ?_
  refine lv_iload_n C.1 C.2.1 dL_move_4 rfl (lv_at hl 1 rfl) ?_
  refine lv_iload_n C.1 C.2.1 dL_move_5 rfl (lv_at hl 2 rfl) ?_
  refine lv_iload_n C.1 C.2.1 dL_move_6 rfl (lv_at hl 3 rfl) ?_
  replace h := ob h; obtain ⟨⟨⟩, i1, h⟩ := h
  replace h := ob3 h; obtain ⟨u5, τ3, y4, ex2, h⟩ := h
  rcases u5 with j6 | x2
  · replace h := bsl h
    rcases Decidable.em (j6 = 0) with c7 | c7
    · replace h := ip c7 h
      subst c7
      cases h
      refine sx_xcallV (As := [.int v1, .int v2, .int v3]) (rest := [.int 0, .ref a4]) C hs (c_X11_move hfl ex2) mo_X11_move q681 i1 rfl rfl hl.1 ⟨⟨(Nat.le_of_ble_eq_true rfl), (Nat.le_of_ble_eq_true rfl)⟩, (Nat.le_of_ble_eq_true rfl), (Nat.le_of_ble_eq_true rfl)⟩ rfl (Nat.le_of_ble_eq_true rfl) dL_move_7 (fun k9 hk9 ce q9 H locs f1 f2 f3 f4 f5 f6 => ?_) (fun vr hv => (inlr hv).elim)
      obtain rfl := Sum.inl.inj hk9
      refine sx_catch (k := 0) (hp := []) (hs9 := [(0, 12, 19, 15), (0, 12, 23, 33), (0, 12, 27, 27)]) (a9 := 0) (b9 := 12) (h9 := 15) (d9 := 13) C tb (fun _ h => nomatch h) (by decide) (by decide) q339 f4 f5 f6 ?_
      refine lv_astore (lv' := [(5, .ref q9), (0, .ref a0), (1, .int v1), (2, .int v2), (3, .int v3), (4, .ref a4)]) C.1 C.2.1 dL_move_15 hl (by decide) rfl (fun ls hl => ?_)
      refine lv_iconst (v := 1) C.1 C.2.1 dL_move_17 (by decide) ?_
      refine W.widen (k := 1) (n := 6) (Nat.le_of_ble_eq_true rfl) (Nat.le_of_ble_eq_true rfl) ?_
      exact sx_iretK C f1 f2 f3 hr rfl dL_move_18
    · replace h := iN c7 h
      rcases Decidable.em (j6 = 1) with c8 | c8
      · replace h := ip c8 h
        subst c8
        cases h
        refine sx_xcallV (As := [.int v1, .int v2, .int v3]) (rest := [.int 0, .ref a4]) C hs (c_X11_move hfl ex2) mo_X11_move q681 i1 rfl rfl hl.1 ⟨⟨(Nat.le_of_ble_eq_true rfl), (Nat.le_of_ble_eq_true rfl)⟩, (Nat.le_of_ble_eq_true rfl), (Nat.le_of_ble_eq_true rfl)⟩ rfl (Nat.le_of_ble_eq_true rfl) dL_move_7 (fun k9 hk9 ce q9 H locs f1 f2 f3 f4 f5 f6 => ?_) (fun vr hv => (inlr hv).elim)
        obtain rfl := Sum.inl.inj hk9
        refine sx_catch (k := 1) (hp := [(0, 12, 15, 13)]) (hs9 := [(0, 12, 23, 33), (0, 12, 27, 27)]) (a9 := 0) (b9 := 12) (h9 := 19) (d9 := 15) C tb (List.forall_mem_cons.mpr ⟨⟨by decide, 0, q339, by decide⟩, (fun _ h => nomatch h)⟩) (by decide) (by decide) q419 f4 f5 f6 ?_
        refine lv_astore (lv' := [(5, .ref q9), (0, .ref a0), (1, .int v1), (2, .int v2), (3, .int v3), (4, .ref a4)]) C.1 C.2.1 dL_move_19 hl (by decide) rfl (fun ls hl => ?_)
        refine lv_iconst (v := 2) C.1 C.2.1 dL_move_21 (by decide) ?_
        refine W.widen (k := 1) (n := 6) (Nat.le_of_ble_eq_true rfl) (Nat.le_of_ble_eq_true rfl) ?_
        exact sx_iretK C f1 f2 f3 hr rfl dL_move_22
      · replace h := iN c8 h
        rcases Decidable.em (j6 = 2) with c9 | c9
        · replace h := ip c9 h
          subst c9
          cases h
          refine sx_xcallV (As := [.int v1, .int v2, .int v3]) (rest := [.int 0, .ref a4]) C hs (c_X11_move hfl ex2) mo_X11_move q681 i1 rfl rfl hl.1 ⟨⟨(Nat.le_of_ble_eq_true rfl), (Nat.le_of_ble_eq_true rfl)⟩, (Nat.le_of_ble_eq_true rfl), (Nat.le_of_ble_eq_true rfl)⟩ rfl (Nat.le_of_ble_eq_true rfl) dL_move_7 (fun k9 hk9 ce q9 H locs f1 f2 f3 f4 f5 f6 => ?_) (fun vr hv => (inlr hv).elim)
          obtain rfl := Sum.inl.inj hk9
          refine sx_catch (k := 2) (hp := [(0, 12, 15, 13), (0, 12, 19, 15)]) (hs9 := [(0, 12, 27, 27)]) (a9 := 0) (b9 := 12) (h9 := 23) (d9 := 33) C tb (List.forall_mem_cons.mpr ⟨⟨by decide, 0, q339, by decide⟩, (List.forall_mem_cons.mpr ⟨⟨by decide, 1, q419, by decide⟩, (fun _ h => nomatch h)⟩)⟩) (by decide) (by decide) q569 f4 f5 f6 ?_
          refine lv_astore (lv' := [(5, .ref q9), (0, .ref a0), (1, .int v1), (2, .int v2), (3, .int v3), (4, .ref a4)]) C.1 C.2.1 dL_move_23 hl (by decide) rfl (fun ls hl => ?_)
          refine lv_iconst (v := 3) C.1 C.2.1 dL_move_25 (by decide) ?_
          refine W.widen (k := 1) (n := 6) (Nat.le_of_ble_eq_true rfl) (Nat.le_of_ble_eq_true rfl) ?_
          exact sx_iretK C f1 f2 f3 hr rfl dL_move_26
        · replace h := iN c9 h
          rcases Decidable.em (j6 = 3) with c10 | c10
          · replace h := ip c10 h
            subst c10
            cases h
            refine sx_xcallV (As := [.int v1, .int v2, .int v3]) (rest := [.int 0, .ref a4]) C hs (c_X11_move hfl ex2) mo_X11_move q681 i1 rfl rfl hl.1 ⟨⟨(Nat.le_of_ble_eq_true rfl), (Nat.le_of_ble_eq_true rfl)⟩, (Nat.le_of_ble_eq_true rfl), (Nat.le_of_ble_eq_true rfl)⟩ rfl (Nat.le_of_ble_eq_true rfl) dL_move_7 (fun k9 hk9 ce q9 H locs f1 f2 f3 f4 f5 f6 => ?_) (fun vr hv => (inlr hv).elim)
            obtain rfl := Sum.inl.inj hk9
            refine sx_catch (k := 3) (hp := [(0, 12, 15, 13), (0, 12, 19, 15), (0, 12, 23, 33)]) (hs9 := []) (a9 := 0) (b9 := 12) (h9 := 27) (d9 := 27) C tb (List.forall_mem_cons.mpr ⟨⟨by decide, 0, q339, by decide⟩, (List.forall_mem_cons.mpr ⟨⟨by decide, 1, q419, by decide⟩, (List.forall_mem_cons.mpr ⟨⟨by decide, 2, q569, by decide⟩, (fun _ h => nomatch h)⟩)⟩)⟩) (by decide) (by decide) q526 f4 f5 f6 ?_
            refine lv_astore (lv' := [(5, .ref q9), (0, .ref a0), (1, .int v1), (2, .int v2), (3, .int v3), (4, .ref a4)]) C.1 C.2.1 dL_move_27 hl (by decide) rfl (fun ls hl => ?_)
            refine lv_iconst (v := 4) C.1 C.2.1 dL_move_29 (by decide) ?_
            refine W.widen (k := 1) (n := 6) (Nat.le_of_ble_eq_true rfl) (Nat.le_of_ble_eq_true rfl) ?_
            exact sx_iretK C f1 f2 f3 hr rfl dL_move_30
          · replace h := iN c10 h
            cases h
  · replace h := bsr h
    refine sx_xcallV (As := [.int v1, .int v2, .int v3]) (rest := [.int 0, .ref a4]) C hs (c_X11_move hfl ex2) mo_X11_move q681 i1 rfl rfl hl.1 ⟨⟨(Nat.le_of_ble_eq_true rfl), (Nat.le_of_ble_eq_true rfl)⟩, (Nat.le_of_ble_eq_true rfl), (Nat.le_of_ble_eq_true rfl)⟩ rfl (Nat.le_of_ble_eq_true rfl) dL_move_7 (fun k9 hk9 => (inrl hk9).elim) (fun vr hv H locs hs => ?_)
    obtain rfl := Sum.inr.inj hv
    refine W.eq (g2 := F0 m 10 ls [.int x2, .int 0, .ref a4]) rfl ?_
    refine W.widen (k := 1) (n := 6) (Nat.le_of_ble_eq_true rfl) (Nat.le_of_ble_eq_true rfl) ?_
    refine lv_i2l (v := Int32.toInt64 x2) C.1 C.2.1 dL_move_10 rfl ?_
    replace h := ob h; obtain ⟨τ11, eτ11, h⟩ := h
    refine sx_last C hs eτ11 dL_move_11 (fun H locs hs => ?_)
    refine lv_goto (tgt := 31) C.1 C.2.1 dL_move_12 (by decide) ?_
    refine lv_iconst (v := 0) C.1 C.2.1 dL_move_31 (by decide) ?_
    cases h
    exact sx_iretG C hs hr rfl dL_move_32
def f_L_setScale (N : Nat) (σ : Sto) (sz : Nat) (a0 : Nat) (v1 : Int32) (v2 : Int32) (v3 : Int32) (v4 : Int32) (a5 : Nat) : Option (Int32 × Sto × Nat) :=
 (isO σ a0 10).bind fun _ =>
 b3 (f_X11_setScale N σ sz a0 v1 v2 v3 v4) fun u5 τ3 y4 =>
 bs u5 (fun j6 => if j6 = 0 then some (1, τ3, y4) else if j6 = 1 then some (2, τ3, y4) else if j6 = 2 then some (3, τ3, y4) else if j6 = 3 then some (4, τ3, y4) else none) fun x2 =>
 (sL τ3 a5 2 0 (Int32.toInt64 x2)).bind fun τ11 =>
 some (0, τ11, y4)
set_option maxHeartbeats 4000000 in
set_option maxRecDepth 100000 in
theorem c_L_setScale {l : Launch} (hfl : l.stackTraces = false) {g : PP} {N : Nat} {σ : Sto} {sz : Nat} {a0 : Nat} {v1 : Int32} {v2 : Int32} {v3 : Int32} {v4 : Int32} {a5 : Nat} {r9 : Int32} {σ9 : Sto} {sz9 : Nat} (h : f_L_setScale N σ sz a0 v1 v2 v3 v4 a5 = some (r9, σ9, sz9)) : Met l yL_setScale [Cond.codeWith yL_setScale cL_setScale 7 (some .int) [(0, 14, 17, 13), (0, 14, 21, 15), (0, 14, 25, 33), (0, 14, 29, 27)]] (rmk 11 1 6 220) (Pre g σ sz [.ref a0, .int v1, .int v2, .int v3, .int v4, .ref a5]) (PstG g (vI r9) σ9 sz9) 1 6 (Aw g) := by
  refine va_MetW (hh := [(0, 14, 17, 13), (0, 14, 21, 15), (0, 14, 25, 33), (0, 14, 29, 27)]) (cc := cL_setScale) (maxL := 7) (ret := (some .int)) (by decide) rfl ?_
  intro p e s m args below meth c s₁ B hml hv
  obtain ⟨rfl, C, hs⟩ := ctx_of B hml hv
  have C : Cx g p s m meth c cL_setScale 7 "TillhouseLaw" := C
  have hr := B.returns
  have tb := vx_table (x := yL_setScale) B (C.2.2.2.2.1.1 _ cw_L_setScale _)
  have hl := lv_entry ([.ref a0, .int v1, .int v2, .int v3, .int v4, .ref a5]) (n := 7) (Nat.le_of_ble_eq_true rfl)
  rw [lg_entry_eq]
  generalize (lg_sl ([.ref a0, .int v1, .int v2, .int v3, .int v4, .ref a5]) ++ List.replicate (7 - (lg_sl ([.ref a0, .int v1, .int v2, .int v3, .int v4, .ref a5])).length) Slot.unset).toArray = ls at hl ⊢
  have hl : lv_has ls 7 [(0, .ref a0), (1, .int v1), (2, .int v2), (3, .int v3), (4, .int v4), (5, .ref a5)] := hl
  unfold f_L_setScale at h
  refine lv_aload C.1 C.2.1 dL_setScale_0 (lv_at hl 5 rfl) ?_
  refine lv_iconst (v := 0) C.1 C.2.1 dL_setScale_2 (by decide) ?_
  refine lv_aload_n C.1 C.2.1 dL_setScale_3 rfl (lv_at hl 0 rfl) ?_
  refine lv_iload_n C.1 C.2.1 dL_setScale_4 rfl (lv_at hl 1 rfl) ?_
  refine lv_iload_n C.1 C.2.1 dL_setScale_5 rfl (lv_at hl 2 rfl) ?_
  refine lv_iload_n C.1 C.2.1 dL_setScale_6 rfl (lv_at hl 3 rfl) ?_
  refine lv_iload C.1 C.2.1 dL_setScale_7 (lv_at hl 4 rfl) ?_
  replace h := ob h; obtain ⟨⟨⟩, i1, h⟩ := h
  replace h := ob3 h; obtain ⟨u5, τ3, y4, ex2, h⟩ := h
  rcases u5 with j6 | x2
  · replace h := bsl h
    rcases Decidable.em (j6 = 0) with c7 | c7
    · replace h := ip c7 h
      subst c7
      cases h
      refine sx_xcallV (As := [.int v1, .int v2, .int v3, .int v4]) (rest := [.int 0, .ref a5]) C hs (c_X11_setScale hfl ex2) mo_X11_setScale q693 i1 rfl rfl hl.1 ⟨⟨(Nat.le_of_ble_eq_true rfl), (Nat.le_of_ble_eq_true rfl)⟩, (Nat.le_of_ble_eq_true rfl), (Nat.le_of_ble_eq_true rfl)⟩ rfl (Nat.le_of_ble_eq_true rfl) dL_setScale_9 (fun k9 hk9 ce q9 H locs f1 f2 f3 f4 f5 f6 => ?_) (fun vr hv => (inlr hv).elim)
      obtain rfl := Sum.inl.inj hk9
      refine sx_catch (k := 0) (hp := []) (hs9 := [(0, 14, 21, 15), (0, 14, 25, 33), (0, 14, 29, 27)]) (a9 := 0) (b9 := 14) (h9 := 17) (d9 := 13) C tb (fun _ h => nomatch h) (by decide) (by decide) q339 f4 f5 f6 ?_
      refine lv_astore (lv' := [(6, .ref q9), (0, .ref a0), (1, .int v1), (2, .int v2), (3, .int v3), (4, .int v4), (5, .ref a5)]) C.1 C.2.1 dL_setScale_17 hl (by decide) rfl (fun ls hl => ?_)
      refine lv_iconst (v := 1) C.1 C.2.1 dL_setScale_19 (by decide) ?_
      refine W.widen (k := 1) (n := 6) (Nat.le_of_ble_eq_true rfl) (Nat.le_of_ble_eq_true rfl) ?_
      exact sx_iretK C f1 f2 f3 hr rfl dL_setScale_20
    · replace h := iN c7 h
      rcases Decidable.em (j6 = 1) with c8 | c8
      · replace h := ip c8 h
        subst c8
        cases h
        refine sx_xcallV (As := [.int v1, .int v2, .int v3, .int v4]) (rest := [.int 0, .ref a5]) C hs (c_X11_setScale hfl ex2) mo_X11_setScale q693 i1 rfl rfl hl.1 ⟨⟨(Nat.le_of_ble_eq_true rfl), (Nat.le_of_ble_eq_true rfl)⟩, (Nat.le_of_ble_eq_true rfl), (Nat.le_of_ble_eq_true rfl)⟩ rfl (Nat.le_of_ble_eq_true rfl) dL_setScale_9 (fun k9 hk9 ce q9 H locs f1 f2 f3 f4 f5 f6 => ?_) (fun vr hv => (inlr hv).elim)
        obtain rfl := Sum.inl.inj hk9
        refine sx_catch (k := 1) (hp := [(0, 14, 17, 13)]) (hs9 := [(0, 14, 25, 33), (0, 14, 29, 27)]) (a9 := 0) (b9 := 14) (h9 := 21) (d9 := 15) C tb (List.forall_mem_cons.mpr ⟨⟨by decide, 0, q339, by decide⟩, (fun _ h => nomatch h)⟩) (by decide) (by decide) q419 f4 f5 f6 ?_
        refine lv_astore (lv' := [(6, .ref q9), (0, .ref a0), (1, .int v1), (2, .int v2), (3, .int v3), (4, .int v4), (5, .ref a5)]) C.1 C.2.1 dL_setScale_21 hl (by decide) rfl (fun ls hl => ?_)
        refine lv_iconst (v := 2) C.1 C.2.1 dL_setScale_23 (by decide) ?_
        refine W.widen (k := 1) (n := 6) (Nat.le_of_ble_eq_true rfl) (Nat.le_of_ble_eq_true rfl) ?_
        exact sx_iretK C f1 f2 f3 hr rfl dL_setScale_24
      · replace h := iN c8 h
        rcases Decidable.em (j6 = 2) with c9 | c9
        · replace h := ip c9 h
          subst c9
          cases h
          refine sx_xcallV (As := [.int v1, .int v2, .int v3, .int v4]) (rest := [.int 0, .ref a5]) C hs (c_X11_setScale hfl ex2) mo_X11_setScale q693 i1 rfl rfl hl.1 ⟨⟨(Nat.le_of_ble_eq_true rfl), (Nat.le_of_ble_eq_true rfl)⟩, (Nat.le_of_ble_eq_true rfl), (Nat.le_of_ble_eq_true rfl)⟩ rfl (Nat.le_of_ble_eq_true rfl) dL_setScale_9 (fun k9 hk9 ce q9 H locs f1 f2 f3 f4 f5 f6 => ?_) (fun vr hv => (inlr hv).elim)
          obtain rfl := Sum.inl.inj hk9
          refine sx_catch (k := 2) (hp := [(0, 14, 17, 13), (0, 14, 21, 15)]) (hs9 := [(0, 14, 29, 27)]) (a9 := 0) (b9 := 14) (h9 := 25) (d9 := 33) C tb (List.forall_mem_cons.mpr ⟨⟨by decide, 0, q339, by decide⟩, (List.forall_mem_cons.mpr ⟨⟨by decide, 1, q419, by decide⟩, (fun _ h => nomatch h)⟩)⟩) (by decide) (by decide) q569 f4 f5 f6 ?_
          refine lv_astore (lv' := [(6, .ref q9), (0, .ref a0), (1, .int v1), (2, .int v2), (3, .int v3), (4, .int v4), (5, .ref a5)]) C.1 C.2.1 dL_setScale_25 hl (by decide) rfl (fun ls hl => ?_)
          refine lv_iconst (v := 3) C.1 C.2.1 dL_setScale_27 (by decide) ?_
          refine W.widen (k := 1) (n := 6) (Nat.le_of_ble_eq_true rfl) (Nat.le_of_ble_eq_true rfl) ?_
          exact sx_iretK C f1 f2 f3 hr rfl dL_setScale_28
        · replace h := iN c9 h
          rcases Decidable.em (j6 = 3) with c10 | c10
          · replace h := ip c10 h
            subst c10
            cases h
            refine sx_xcallV (As := [.int v1, .int v2, .int v3, .int v4]) (rest := [.int 0, .ref a5]) C hs (c_X11_setScale hfl ex2) mo_X11_setScale q693 i1 rfl rfl hl.1 ⟨⟨(Nat.le_of_ble_eq_true rfl), (Nat.le_of_ble_eq_true rfl)⟩, (Nat.le_of_ble_eq_true rfl), (Nat.le_of_ble_eq_true rfl)⟩ rfl (Nat.le_of_ble_eq_true rfl) dL_setScale_9 (fun k9 hk9 ce q9 H locs f1 f2 f3 f4 f5 f6 => ?_) (fun vr hv => (inlr hv).elim)
            obtain rfl := Sum.inl.inj hk9
            refine sx_catch (k := 3) (hp := [(0, 14, 17, 13), (0, 14, 21, 15), (0, 14, 25, 33)]) (hs9 := []) (a9 := 0) (b9 := 14) (h9 := 29) (d9 := 27) C tb (List.forall_mem_cons.mpr ⟨⟨by decide, 0, q339, by decide⟩, (List.forall_mem_cons.mpr ⟨⟨by decide, 1, q419, by decide⟩, (List.forall_mem_cons.mpr ⟨⟨by decide, 2, q569, by decide⟩, (fun _ h => nomatch h)⟩)⟩)⟩) (by decide) (by decide) q526 f4 f5 f6 ?_
            refine lv_astore (lv' := [(6, .ref q9), (0, .ref a0), (1, .int v1), (2, .int v2), (3, .int v3), (4, .int v4), (5, .ref a5)]) C.1 C.2.1 dL_setScale_29 hl (by decide) rfl (fun ls hl => ?_)
            refine lv_iconst (v := 4) C.1 C.2.1 dL_setScale_31 (by decide) ?_
            refine W.widen (k := 1) (n := 6) (Nat.le_of_ble_eq_true rfl) (Nat.le_of_ble_eq_true rfl) ?_
            exact sx_iretK C f1 f2 f3 hr rfl dL_setScale_32
          · replace h := iN c10 h
            cases h
  · replace h := bsr h
    refine sx_xcallV (As := [.int v1, .int v2, .int v3, .int v4]) (rest := [.int 0, .ref a5]) C hs (c_X11_setScale hfl ex2) mo_X11_setScale q693 i1 rfl rfl hl.1 ⟨⟨(Nat.le_of_ble_eq_true rfl), (Nat.le_of_ble_eq_true rfl)⟩, (Nat.le_of_ble_eq_true rfl), (Nat.le_of_ble_eq_true rfl)⟩ rfl (Nat.le_of_ble_eq_true rfl) dL_setScale_9 (fun k9 hk9 => (inrl hk9).elim) (fun vr hv H locs hs => ?_)
    obtain rfl := Sum.inr.inj hv
    refine W.eq (g2 := F0 m 12 ls [.int x2, .int 0, .ref a5]) rfl ?_
    refine W.widen (k := 1) (n := 6) (Nat.le_of_ble_eq_true rfl) (Nat.le_of_ble_eq_true rfl) ?_
    refine lv_i2l (v := Int32.toInt64 x2) C.1 C.2.1 dL_setScale_12 rfl ?_
    replace h := ob h; obtain ⟨τ11, eτ11, h⟩ := h
    refine sx_last C hs eτ11 dL_setScale_13 (fun H locs hs => ?_)
    refine lv_goto (tgt := 33) C.1 C.2.1 dL_setScale_14 (by decide) ?_
    refine lv_iconst (v := 0) C.1 C.2.1 dL_setScale_33 (by decide) ?_
    cases h
    exact sx_iretG C hs hr rfl dL_setScale_34
def f_L_round (N : Nat) (σ : Sto) (sz : Nat) (a0 : Nat) (v1 : Int32) (v2 : Int32) (v3 : Int32) (v4 : Int32) (a5 : Nat) : Option (Int32 × Sto × Nat) :=
 (isO σ a0 10).bind fun _ =>
 b3 (f_X11_round N σ sz a0 v1 v2 v3 v4) fun u5 τ3 y4 =>
 bs u5 (fun j6 => if j6 = 0 then some (1, τ3, y4) else if j6 = 1 then some (2, τ3, y4) else if j6 = 2 then some (3, τ3, y4) else if j6 = 3 then some (4, τ3, y4) else none) fun x2 =>
 (sL τ3 a5 2 0 (Int32.toInt64 x2)).bind fun τ11 =>
 some (0, τ11, y4)
set_option maxHeartbeats 4000000 in
set_option maxRecDepth 100000 in
theorem c_L_round {l : Launch} (hfl : l.stackTraces = false) {g : PP} {N : Nat} {σ : Sto} {sz : Nat} {a0 : Nat} {v1 : Int32} {v2 : Int32} {v3 : Int32} {v4 : Int32} {a5 : Nat} {r9 : Int32} {σ9 : Sto} {sz9 : Nat} (h : f_L_round N σ sz a0 v1 v2 v3 v4 a5 = some (r9, σ9, sz9)) : Met l yL_round [Cond.codeWith yL_round cL_round 7 (some .int) [(0, 14, 17, 13), (0, 14, 21, 15), (0, 14, 25, 33), (0, 14, 29, 27)]] (rmk 11 1 6 223) (Pre g σ sz [.ref a0, .int v1, .int v2, .int v3, .int v4, .ref a5]) (PstG g (vI r9) σ9 sz9) 1 6 (Aw g) := by
  refine va_MetW (hh := [(0, 14, 17, 13), (0, 14, 21, 15), (0, 14, 25, 33), (0, 14, 29, 27)]) (cc := cL_round) (maxL := 7) (ret := (some .int)) (by decide) rfl ?_
  intro p e s m args below meth c s₁ B hml hv
  obtain ⟨rfl, C, hs⟩ := ctx_of B hml hv
  have C : Cx g p s m meth c cL_round 7 "TillhouseLaw" := C
  have hr := B.returns
  have tb := vx_table (x := yL_round) B (C.2.2.2.2.1.1 _ cw_L_round _)
  have hl := lv_entry ([.ref a0, .int v1, .int v2, .int v3, .int v4, .ref a5]) (n := 7) (Nat.le_of_ble_eq_true rfl)
  rw [lg_entry_eq]
  generalize (lg_sl ([.ref a0, .int v1, .int v2, .int v3, .int v4, .ref a5]) ++ List.replicate (7 - (lg_sl ([.ref a0, .int v1, .int v2, .int v3, .int v4, .ref a5])).length) Slot.unset).toArray = ls at hl ⊢
  have hl : lv_has ls 7 [(0, .ref a0), (1, .int v1), (2, .int v2), (3, .int v3), (4, .int v4), (5, .ref a5)] := hl
  unfold f_L_round at h
  refine lv_aload C.1 C.2.1 dL_round_0 (lv_at hl 5 rfl) ?_
  refine lv_iconst (v := 0) C.1 C.2.1 dL_round_2 (by decide) ?_
  refine lv_aload_n C.1 C.2.1 dL_round_3 rfl (lv_at hl 0 rfl) ?_
  refine lv_iload_n C.1 C.2.1 dL_round_4 rfl (lv_at hl 1 rfl) ?_
  refine lv_iload_n C.1 C.2.1 dL_round_5 rfl (lv_at hl 2 rfl) ?_
  refine lv_iload_n C.1 C.2.1 dL_round_6 rfl (lv_at hl 3 rfl) ?_
  refine lv_iload C.1 C.2.1 dL_round_7 (lv_at hl 4 rfl) ?_
  replace h := ob h; obtain ⟨⟨⟩, i1, h⟩ := h
  replace h := ob3 h; obtain ⟨u5, τ3, y4, ex2, h⟩ := h
  rcases u5 with j6 | x2
  · replace h := bsl h
    rcases Decidable.em (j6 = 0) with c7 | c7
    · replace h := ip c7 h
      subst c7
      cases h
      refine sx_xcallV (As := [.int v1, .int v2, .int v3, .int v4]) (rest := [.int 0, .ref a5]) C hs (c_X11_round hfl ex2) mo_X11_round q734 i1 rfl rfl hl.1 ⟨⟨(Nat.le_of_ble_eq_true rfl), (Nat.le_of_ble_eq_true rfl)⟩, (Nat.le_of_ble_eq_true rfl), (Nat.le_of_ble_eq_true rfl)⟩ rfl (Nat.le_of_ble_eq_true rfl) dL_round_9 (fun k9 hk9 ce q9 H locs f1 f2 f3 f4 f5 f6 => ?_) (fun vr hv => (inlr hv).elim)
      obtain rfl := Sum.inl.inj hk9
      refine sx_catch (k := 0) (hp := []) (hs9 := [(0, 14, 21, 15), (0, 14, 25, 33), (0, 14, 29, 27)]) (a9 := 0) (b9 := 14) (h9 := 17) (d9 := 13) C tb (fun _ h => nomatch h) (by decide) (by decide) q339 f4 f5 f6 ?_
      refine lv_astore (lv' := [(6, .ref q9), (0, .ref a0), (1, .int v1), (2, .int v2), (3, .int v3), (4, .int v4), (5, .ref a5)]) C.1 C.2.1 dL_round_17 hl (by decide) rfl (fun ls hl => ?_)
      refine lv_iconst (v := 1) C.1 C.2.1 dL_round_19 (by decide) ?_
      refine W.widen (k := 1) (n := 6) (Nat.le_of_ble_eq_true rfl) (Nat.le_of_ble_eq_true rfl) ?_
      exact sx_iretK C f1 f2 f3 hr rfl dL_round_20
    · replace h := iN c7 h
      rcases Decidable.em (j6 = 1) with c8 | c8
      · replace h := ip c8 h
        subst c8
        cases h
        refine sx_xcallV (As := [.int v1, .int v2, .int v3, .int v4]) (rest := [.int 0, .ref a5]) C hs (c_X11_round hfl ex2) mo_X11_round q734 i1 rfl rfl hl.1 ⟨⟨(Nat.le_of_ble_eq_true rfl), (Nat.le_of_ble_eq_true rfl)⟩, (Nat.le_of_ble_eq_true rfl), (Nat.le_of_ble_eq_true rfl)⟩ rfl (Nat.le_of_ble_eq_true rfl) dL_round_9 (fun k9 hk9 ce q9 H locs f1 f2 f3 f4 f5 f6 => ?_) (fun vr hv => (inlr hv).elim)
        obtain rfl := Sum.inl.inj hk9
        refine sx_catch (k := 1) (hp := [(0, 14, 17, 13)]) (hs9 := [(0, 14, 25, 33), (0, 14, 29, 27)]) (a9 := 0) (b9 := 14) (h9 := 21) (d9 := 15) C tb (List.forall_mem_cons.mpr ⟨⟨by decide, 0, q339, by decide⟩, (fun _ h => nomatch h)⟩) (by decide) (by decide) q419 f4 f5 f6 ?_
        refine lv_astore (lv' := [(6, .ref q9), (0, .ref a0), (1, .int v1), (2, .int v2), (3, .int v3), (4, .int v4), (5, .ref a5)]) C.1 C.2.1 dL_round_21 hl (by decide) rfl (fun ls hl => ?_)
        refine lv_iconst (v := 2) C.1 C.2.1 dL_round_23 (by decide) ?_
        refine W.widen (k := 1) (n := 6) (Nat.le_of_ble_eq_true rfl) (Nat.le_of_ble_eq_true rfl) ?_
        exact sx_iretK C f1 f2 f3 hr rfl dL_round_24
      · replace h := iN c8 h
        rcases Decidable.em (j6 = 2) with c9 | c9
        · replace h := ip c9 h
          subst c9
          cases h
          refine sx_xcallV (As := [.int v1, .int v2, .int v3, .int v4]) (rest := [.int 0, .ref a5]) C hs (c_X11_round hfl ex2) mo_X11_round q734 i1 rfl rfl hl.1 ⟨⟨(Nat.le_of_ble_eq_true rfl), (Nat.le_of_ble_eq_true rfl)⟩, (Nat.le_of_ble_eq_true rfl), (Nat.le_of_ble_eq_true rfl)⟩ rfl (Nat.le_of_ble_eq_true rfl) dL_round_9 (fun k9 hk9 ce q9 H locs f1 f2 f3 f4 f5 f6 => ?_) (fun vr hv => (inlr hv).elim)
          obtain rfl := Sum.inl.inj hk9
          refine sx_catch (k := 2) (hp := [(0, 14, 17, 13), (0, 14, 21, 15)]) (hs9 := [(0, 14, 29, 27)]) (a9 := 0) (b9 := 14) (h9 := 25) (d9 := 33) C tb (List.forall_mem_cons.mpr ⟨⟨by decide, 0, q339, by decide⟩, (List.forall_mem_cons.mpr ⟨⟨by decide, 1, q419, by decide⟩, (fun _ h => nomatch h)⟩)⟩) (by decide) (by decide) q569 f4 f5 f6 ?_
          refine lv_astore (lv' := [(6, .ref q9), (0, .ref a0), (1, .int v1), (2, .int v2), (3, .int v3), (4, .int v4), (5, .ref a5)]) C.1 C.2.1 dL_round_25 hl (by decide) rfl (fun ls hl => ?_)
          refine lv_iconst (v := 3) C.1 C.2.1 dL_round_27 (by decide) ?_
          refine W.widen (k := 1) (n := 6) (Nat.le_of_ble_eq_true rfl) (Nat.le_of_ble_eq_true rfl) ?_
          exact sx_iretK C f1 f2 f3 hr rfl dL_round_28
        · replace h := iN c9 h
          rcases Decidable.em (j6 = 3) with c10 | c10
          · replace h := ip c10 h
            subst c10
            cases h
            refine sx_xcallV (As := [.int v1, .int v2, .int v3, .int v4]) (rest := [.int 0, .ref a5]) C hs (c_X11_round hfl ex2) mo_X11_round q734 i1 rfl rfl hl.1 ⟨⟨(Nat.le_of_ble_eq_true rfl), (Nat.le_of_ble_eq_true rfl)⟩, (Nat.le_of_ble_eq_true rfl), (Nat.le_of_ble_eq_true rfl)⟩ rfl (Nat.le_of_ble_eq_true rfl) dL_round_9 (fun k9 hk9 ce q9 H locs f1 f2 f3 f4 f5 f6 => ?_) (fun vr hv => (inlr hv).elim)
            obtain rfl := Sum.inl.inj hk9
            refine sx_catch (k := 3) (hp := [(0, 14, 17, 13), (0, 14, 21, 15), (0, 14, 25, 33)]) (hs9 := []) (a9 := 0) (b9 := 14) (h9 := 29) (d9 := 27) C tb (List.forall_mem_cons.mpr ⟨⟨by decide, 0, q339, by decide⟩, (List.forall_mem_cons.mpr ⟨⟨by decide, 1, q419, by decide⟩, (List.forall_mem_cons.mpr ⟨⟨by decide, 2, q569, by decide⟩, (fun _ h => nomatch h)⟩)⟩)⟩) (by decide) (by decide) q526 f4 f5 f6 ?_
            refine lv_astore (lv' := [(6, .ref q9), (0, .ref a0), (1, .int v1), (2, .int v2), (3, .int v3), (4, .int v4), (5, .ref a5)]) C.1 C.2.1 dL_round_29 hl (by decide) rfl (fun ls hl => ?_)
            refine lv_iconst (v := 4) C.1 C.2.1 dL_round_31 (by decide) ?_
            refine W.widen (k := 1) (n := 6) (Nat.le_of_ble_eq_true rfl) (Nat.le_of_ble_eq_true rfl) ?_
            exact sx_iretK C f1 f2 f3 hr rfl dL_round_32
          · replace h := iN c10 h
            cases h
  · replace h := bsr h
    refine sx_xcallV (As := [.int v1, .int v2, .int v3, .int v4]) (rest := [.int 0, .ref a5]) C hs (c_X11_round hfl ex2) mo_X11_round q734 i1 rfl rfl hl.1 ⟨⟨(Nat.le_of_ble_eq_true rfl), (Nat.le_of_ble_eq_true rfl)⟩, (Nat.le_of_ble_eq_true rfl), (Nat.le_of_ble_eq_true rfl)⟩ rfl (Nat.le_of_ble_eq_true rfl) dL_round_9 (fun k9 hk9 => (inrl hk9).elim) (fun vr hv H locs hs => ?_)
    obtain rfl := Sum.inr.inj hv
    refine W.eq (g2 := F0 m 12 ls [.int x2, .int 0, .ref a5]) rfl ?_
    refine W.widen (k := 1) (n := 6) (Nat.le_of_ble_eq_true rfl) (Nat.le_of_ble_eq_true rfl) ?_
    refine lv_i2l (v := Int32.toInt64 x2) C.1 C.2.1 dL_round_12 rfl ?_
    replace h := ob h; obtain ⟨τ11, eτ11, h⟩ := h
    refine sx_last C hs eτ11 dL_round_13 (fun H locs hs => ?_)
    refine lv_goto (tgt := 33) C.1 C.2.1 dL_round_14 (by decide) ?_
    refine lv_iconst (v := 0) C.1 C.2.1 dL_round_33 (by decide) ?_
    cases h
    exact sx_iretG C hs hr rfl dL_round_34
def f_L_divide (N : Nat) (σ : Sto) (sz : Nat) (a0 : Nat) (v1 : Int32) (v2 : Int32) (v3 : Int32) (v4 : Int32) (v5 : Int32) (a6 : Nat) : Option (Int32 × Sto × Nat) :=
 (isO σ a0 10).bind fun _ =>
 b3 (f_X11_divide N σ sz a0 v1 v2 v3 v4 v5) fun u5 τ3 y4 =>
 bs u5 (fun j6 => if j6 = 0 then some (1, τ3, y4) else if j6 = 1 then some (2, τ3, y4) else if j6 = 2 then some (3, τ3, y4) else if j6 = 3 then some (4, τ3, y4) else none) fun x2 =>
 (sL τ3 a6 2 0 (Int32.toInt64 x2)).bind fun τ11 =>
 some (0, τ11, y4)
set_option maxHeartbeats 4000000 in
set_option maxRecDepth 100000 in
theorem c_L_divide {l : Launch} (hfl : l.stackTraces = false) {g : PP} {N : Nat} {σ : Sto} {sz : Nat} {a0 : Nat} {v1 : Int32} {v2 : Int32} {v3 : Int32} {v4 : Int32} {v5 : Int32} {a6 : Nat} {r9 : Int32} {σ9 : Sto} {sz9 : Nat} (h : f_L_divide N σ sz a0 v1 v2 v3 v4 v5 a6 = some (r9, σ9, sz9)) : Met l yL_divide [Cond.codeWith yL_divide cL_divide 8 (some .int) [(0, 16, 19, 13), (0, 16, 23, 15), (0, 16, 27, 33), (0, 16, 31, 27)]] (rmk 10 2 9 201) (Pre g σ sz [.ref a0, .int v1, .int v2, .int v3, .int v4, .int v5, .ref a6]) (PstG g (vI r9) σ9 sz9) 2 9 (Aw g) := by
  refine va_MetW (hh := [(0, 16, 19, 13), (0, 16, 23, 15), (0, 16, 27, 33), (0, 16, 31, 27)]) (cc := cL_divide) (maxL := 8) (ret := (some .int)) (by decide) rfl ?_
  intro p e s m args below meth c s₁ B hml hv
  obtain ⟨rfl, C, hs⟩ := ctx_of B hml hv
  have C : Cx g p s m meth c cL_divide 8 "TillhouseLaw" := C
  have hr := B.returns
  have tb := vx_table (x := yL_divide) B (C.2.2.2.2.1.1 _ cw_L_divide _)
  have hl := lv_entry ([.ref a0, .int v1, .int v2, .int v3, .int v4, .int v5, .ref a6]) (n := 8) (Nat.le_of_ble_eq_true rfl)
  rw [lg_entry_eq]
  generalize (lg_sl ([.ref a0, .int v1, .int v2, .int v3, .int v4, .int v5, .ref a6]) ++ List.replicate (8 - (lg_sl ([.ref a0, .int v1, .int v2, .int v3, .int v4, .int v5, .ref a6])).length) Slot.unset).toArray = ls at hl ⊢
  have hl : lv_has ls 8 [(0, .ref a0), (1, .int v1), (2, .int v2), (3, .int v3), (4, .int v4), (5, .int v5), (6, .ref a6)] := hl
  unfold f_L_divide at h
  refine lv_aload C.1 C.2.1 dL_divide_0 (lv_at hl 6 rfl) ?_
  refine lv_iconst (v := 0) C.1 C.2.1 dL_divide_2 (by decide) ?_
  refine lv_aload_n C.1 C.2.1 dL_divide_3 rfl (lv_at hl 0 rfl) ?_
  refine lv_iload_n C.1 C.2.1 dL_divide_4 rfl (lv_at hl 1 rfl) ?_
  refine lv_iload_n C.1 C.2.1 dL_divide_5 rfl (lv_at hl 2 rfl) ?_
  refine lv_iload_n C.1 C.2.1 dL_divide_6 rfl (lv_at hl 3 rfl) ?_
  refine lv_iload C.1 C.2.1 dL_divide_7 (lv_at hl 4 rfl) ?_
  refine lv_iload C.1 C.2.1 dL_divide_9 (lv_at hl 5 rfl) ?_
  replace h := ob h; obtain ⟨⟨⟩, i1, h⟩ := h
  replace h := ob3 h; obtain ⟨u5, τ3, y4, ex2, h⟩ := h
  rcases u5 with j6 | x2
  · replace h := bsl h
    rcases Decidable.em (j6 = 0) with c7 | c7
    · replace h := ip c7 h
      subst c7
      cases h
      refine sx_xcallV (As := [.int v1, .int v2, .int v3, .int v4, .int v5]) (rest := [.int 0, .ref a6]) C hs (c_X11_divide hfl ex2) mo_X11_divide q746 i1 rfl rfl hl.1 ⟨⟨(Nat.le_of_ble_eq_true rfl), (Nat.le_of_ble_eq_true rfl)⟩, (Nat.le_of_ble_eq_true rfl), (Nat.le_of_ble_eq_true rfl)⟩ rfl (Nat.le_of_ble_eq_true rfl) dL_divide_11 (fun k9 hk9 ce q9 H locs f1 f2 f3 f4 f5 f6 => ?_) (fun vr hv => (inlr hv).elim)
      obtain rfl := Sum.inl.inj hk9
      refine sx_catch (k := 0) (hp := []) (hs9 := [(0, 16, 23, 15), (0, 16, 27, 33), (0, 16, 31, 27)]) (a9 := 0) (b9 := 16) (h9 := 19) (d9 := 13) C tb (fun _ h => nomatch h) (by decide) (by decide) q339 f4 f5 f6 ?_
      refine lv_astore (lv' := [(7, .ref q9), (0, .ref a0), (1, .int v1), (2, .int v2), (3, .int v3), (4, .int v4), (5, .int v5), (6, .ref a6)]) C.1 C.2.1 dL_divide_19 hl (by decide) rfl (fun ls hl => ?_)
      refine lv_iconst (v := 1) C.1 C.2.1 dL_divide_21 (by decide) ?_
      refine W.widen (k := 2) (n := 9) (Nat.le_of_ble_eq_true rfl) (Nat.le_of_ble_eq_true rfl) ?_
      exact sx_iretK C f1 f2 f3 hr rfl dL_divide_22
    · replace h := iN c7 h
      rcases Decidable.em (j6 = 1) with c8 | c8
      · replace h := ip c8 h
        subst c8
        cases h
        refine sx_xcallV (As := [.int v1, .int v2, .int v3, .int v4, .int v5]) (rest := [.int 0, .ref a6]) C hs (c_X11_divide hfl ex2) mo_X11_divide q746 i1 rfl rfl hl.1 ⟨⟨(Nat.le_of_ble_eq_true rfl), (Nat.le_of_ble_eq_true rfl)⟩, (Nat.le_of_ble_eq_true rfl), (Nat.le_of_ble_eq_true rfl)⟩ rfl (Nat.le_of_ble_eq_true rfl) dL_divide_11 (fun k9 hk9 ce q9 H locs f1 f2 f3 f4 f5 f6 => ?_) (fun vr hv => (inlr hv).elim)
        obtain rfl := Sum.inl.inj hk9
        refine sx_catch (k := 1) (hp := [(0, 16, 19, 13)]) (hs9 := [(0, 16, 27, 33), (0, 16, 31, 27)]) (a9 := 0) (b9 := 16) (h9 := 23) (d9 := 15) C tb (List.forall_mem_cons.mpr ⟨⟨by decide, 0, q339, by decide⟩, (fun _ h => nomatch h)⟩) (by decide) (by decide) q419 f4 f5 f6 ?_
        refine lv_astore (lv' := [(7, .ref q9), (0, .ref a0), (1, .int v1), (2, .int v2), (3, .int v3), (4, .int v4), (5, .int v5), (6, .ref a6)]) C.1 C.2.1 dL_divide_23 hl (by decide) rfl (fun ls hl => ?_)
        refine lv_iconst (v := 2) C.1 C.2.1 dL_divide_25 (by decide) ?_
        refine W.widen (k := 2) (n := 9) (Nat.le_of_ble_eq_true rfl) (Nat.le_of_ble_eq_true rfl) ?_
        exact sx_iretK C f1 f2 f3 hr rfl dL_divide_26
      · replace h := iN c8 h
        rcases Decidable.em (j6 = 2) with c9 | c9
        · replace h := ip c9 h
          subst c9
          cases h
          refine sx_xcallV (As := [.int v1, .int v2, .int v3, .int v4, .int v5]) (rest := [.int 0, .ref a6]) C hs (c_X11_divide hfl ex2) mo_X11_divide q746 i1 rfl rfl hl.1 ⟨⟨(Nat.le_of_ble_eq_true rfl), (Nat.le_of_ble_eq_true rfl)⟩, (Nat.le_of_ble_eq_true rfl), (Nat.le_of_ble_eq_true rfl)⟩ rfl (Nat.le_of_ble_eq_true rfl) dL_divide_11 (fun k9 hk9 ce q9 H locs f1 f2 f3 f4 f5 f6 => ?_) (fun vr hv => (inlr hv).elim)
          obtain rfl := Sum.inl.inj hk9
          refine sx_catch (k := 2) (hp := [(0, 16, 19, 13), (0, 16, 23, 15)]) (hs9 := [(0, 16, 31, 27)]) (a9 := 0) (b9 := 16) (h9 := 27) (d9 := 33) C tb (List.forall_mem_cons.mpr ⟨⟨by decide, 0, q339, by decide⟩, (List.forall_mem_cons.mpr ⟨⟨by decide, 1, q419, by decide⟩, (fun _ h => nomatch h)⟩)⟩) (by decide) (by decide) q569 f4 f5 f6 ?_
          refine lv_astore (lv' := [(7, .ref q9), (0, .ref a0), (1, .int v1), (2, .int v2), (3, .int v3), (4, .int v4), (5, .int v5), (6, .ref a6)]) C.1 C.2.1 dL_divide_27 hl (by decide) rfl (fun ls hl => ?_)
          refine lv_iconst (v := 3) C.1 C.2.1 dL_divide_29 (by decide) ?_
          refine W.widen (k := 2) (n := 9) (Nat.le_of_ble_eq_true rfl) (Nat.le_of_ble_eq_true rfl) ?_
          exact sx_iretK C f1 f2 f3 hr rfl dL_divide_30
        · replace h := iN c9 h
          rcases Decidable.em (j6 = 3) with c10 | c10
          · replace h := ip c10 h
            subst c10
            cases h
            refine sx_xcallV (As := [.int v1, .int v2, .int v3, .int v4, .int v5]) (rest := [.int 0, .ref a6]) C hs (c_X11_divide hfl ex2) mo_X11_divide q746 i1 rfl rfl hl.1 ⟨⟨(Nat.le_of_ble_eq_true rfl), (Nat.le_of_ble_eq_true rfl)⟩, (Nat.le_of_ble_eq_true rfl), (Nat.le_of_ble_eq_true rfl)⟩ rfl (Nat.le_of_ble_eq_true rfl) dL_divide_11 (fun k9 hk9 ce q9 H locs f1 f2 f3 f4 f5 f6 => ?_) (fun vr hv => (inlr hv).elim)
            obtain rfl := Sum.inl.inj hk9
            refine sx_catch (k := 3) (hp := [(0, 16, 19, 13), (0, 16, 23, 15), (0, 16, 27, 33)]) (hs9 := []) (a9 := 0) (b9 := 16) (h9 := 31) (d9 := 27) C tb (List.forall_mem_cons.mpr ⟨⟨by decide, 0, q339, by decide⟩, (List.forall_mem_cons.mpr ⟨⟨by decide, 1, q419, by decide⟩, (List.forall_mem_cons.mpr ⟨⟨by decide, 2, q569, by decide⟩, (fun _ h => nomatch h)⟩)⟩)⟩) (by decide) (by decide) q526 f4 f5 f6 ?_
            refine lv_astore (lv' := [(7, .ref q9), (0, .ref a0), (1, .int v1), (2, .int v2), (3, .int v3), (4, .int v4), (5, .int v5), (6, .ref a6)]) C.1 C.2.1 dL_divide_31 hl (by decide) rfl (fun ls hl => ?_)
            refine lv_iconst (v := 4) C.1 C.2.1 dL_divide_33 (by decide) ?_
            refine W.widen (k := 2) (n := 9) (Nat.le_of_ble_eq_true rfl) (Nat.le_of_ble_eq_true rfl) ?_
            exact sx_iretK C f1 f2 f3 hr rfl dL_divide_34
          · replace h := iN c10 h
            cases h
  · replace h := bsr h
    refine sx_xcallV (As := [.int v1, .int v2, .int v3, .int v4, .int v5]) (rest := [.int 0, .ref a6]) C hs (c_X11_divide hfl ex2) mo_X11_divide q746 i1 rfl rfl hl.1 ⟨⟨(Nat.le_of_ble_eq_true rfl), (Nat.le_of_ble_eq_true rfl)⟩, (Nat.le_of_ble_eq_true rfl), (Nat.le_of_ble_eq_true rfl)⟩ rfl (Nat.le_of_ble_eq_true rfl) dL_divide_11 (fun k9 hk9 => (inrl hk9).elim) (fun vr hv H locs hs => ?_)
    obtain rfl := Sum.inr.inj hv
    refine W.eq (g2 := F0 m 14 ls [.int x2, .int 0, .ref a6]) rfl ?_
    refine W.widen (k := 2) (n := 9) (Nat.le_of_ble_eq_true rfl) (Nat.le_of_ble_eq_true rfl) ?_
    refine lv_i2l (v := Int32.toInt64 x2) C.1 C.2.1 dL_divide_14 rfl ?_
    replace h := ob h; obtain ⟨τ11, eτ11, h⟩ := h
    refine sx_last C hs eτ11 dL_divide_15 (fun H locs hs => ?_)
    refine lv_goto (tgt := 35) C.1 C.2.1 dL_divide_16 (by decide) ?_
    refine lv_iconst (v := 0) C.1 C.2.1 dL_divide_35 (by decide) ?_
    cases h
    exact sx_iretG C hs hr rfl dL_divide_36
def f_L_divideExactly (N : Nat) (σ : Sto) (sz : Nat) (a0 : Nat) (v1 : Int32) (v2 : Int32) (v3 : Int32) (a4 : Nat) : Option (Int32 × Sto × Nat) :=
 (isO σ a0 10).bind fun _ =>
 b3 (f_X11_divideExactly N σ sz a0 v1 v2 v3) fun u5 τ3 y4 =>
 bs u5 (fun j6 => if j6 = 0 then some (1, τ3, y4) else if j6 = 2 then some (2, τ3, y4) else if j6 = 3 then some (3, τ3, y4) else none) fun x2 =>
 (sL τ3 a4 2 0 (Int32.toInt64 x2)).bind fun τ10 =>
 some (0, τ10, y4)
set_option maxHeartbeats 4000000 in
set_option maxRecDepth 100000 in
theorem c_L_divideExactly {l : Launch} (hfl : l.stackTraces = false) {g : PP} {N : Nat} {σ : Sto} {sz : Nat} {a0 : Nat} {v1 : Int32} {v2 : Int32} {v3 : Int32} {a4 : Nat} {r9 : Int32} {σ9 : Sto} {sz9 : Nat} (h : f_L_divideExactly N σ sz a0 v1 v2 v3 a4 = some (r9, σ9, sz9)) : Met l yL_divideExactly [Cond.codeWith yL_divideExactly cL_divideExactly 6 (some .int) [(0, 12, 15, 13), (0, 12, 19, 33), (0, 12, 23, 27)]] (rmk 10 2 9 192) (Pre g σ sz [.ref a0, .int v1, .int v2, .int v3, .ref a4]) (PstG g (vI r9) σ9 sz9) 2 9 (Aw g) := by
  refine va_MetW (hh := [(0, 12, 15, 13), (0, 12, 19, 33), (0, 12, 23, 27)]) (cc := cL_divideExactly) (maxL := 6) (ret := (some .int)) (by decide) rfl ?_
  intro p e s m args below meth c s₁ B hml hv
  obtain ⟨rfl, C, hs⟩ := ctx_of B hml hv
  have C : Cx g p s m meth c cL_divideExactly 6 "TillhouseLaw" := C
  have hr := B.returns
  have tb := vx_table (x := yL_divideExactly) B (C.2.2.2.2.1.1 _ cw_L_divideExactly _)
  have hl := lv_entry ([.ref a0, .int v1, .int v2, .int v3, .ref a4]) (n := 6) (Nat.le_of_ble_eq_true rfl)
  rw [lg_entry_eq]
  generalize (lg_sl ([.ref a0, .int v1, .int v2, .int v3, .ref a4]) ++ List.replicate (6 - (lg_sl ([.ref a0, .int v1, .int v2, .int v3, .ref a4])).length) Slot.unset).toArray = ls at hl ⊢
  have hl : lv_has ls 6 [(0, .ref a0), (1, .int v1), (2, .int v2), (3, .int v3), (4, .ref a4)] := hl
  unfold f_L_divideExactly at h
  refine lv_aload C.1 C.2.1 dL_divideExactly_0 (lv_at hl 4 rfl) ?_
  refine lv_iconst (v := 0) C.1 C.2.1 dL_divideExactly_2 (by decide) ?_
  refine lv_aload_n C.1 C.2.1 dL_divideExactly_3 rfl (lv_at hl 0 rfl) ?_
  refine lv_iload_n C.1 C.2.1 dL_divideExactly_4 rfl (lv_at hl 1 rfl) ?_
  refine lv_iload_n C.1 C.2.1 dL_divideExactly_5 rfl (lv_at hl 2 rfl) ?_
  refine lv_iload_n C.1 C.2.1 dL_divideExactly_6 rfl (lv_at hl 3 rfl) ?_
  replace h := ob h; obtain ⟨⟨⟩, i1, h⟩ := h
  replace h := ob3 h; obtain ⟨u5, τ3, y4, ex2, h⟩ := h
  rcases u5 with j6 | x2
  · replace h := bsl h
    rcases Decidable.em (j6 = 0) with c7 | c7
    · replace h := ip c7 h
      subst c7
      cases h
      refine sx_xcallV (As := [.int v1, .int v2, .int v3]) (rest := [.int 0, .ref a4]) C hs (c_X11_divideExactly hfl ex2) mo_X11_divideExactly q807 i1 rfl rfl hl.1 ⟨⟨(Nat.le_of_ble_eq_true rfl), (Nat.le_of_ble_eq_true rfl)⟩, (Nat.le_of_ble_eq_true rfl), (Nat.le_of_ble_eq_true rfl)⟩ rfl (Nat.le_of_ble_eq_true rfl) dL_divideExactly_7 (fun k9 hk9 ce q9 H locs f1 f2 f3 f4 f5 f6 => ?_) (fun vr hv => (inlr hv).elim)
      obtain rfl := Sum.inl.inj hk9
      refine sx_catch (k := 0) (hp := []) (hs9 := [(0, 12, 19, 33), (0, 12, 23, 27)]) (a9 := 0) (b9 := 12) (h9 := 15) (d9 := 13) C tb (fun _ h => nomatch h) (by decide) (by decide) q339 f4 f5 f6 ?_
      refine lv_astore (lv' := [(5, .ref q9), (0, .ref a0), (1, .int v1), (2, .int v2), (3, .int v3), (4, .ref a4)]) C.1 C.2.1 dL_divideExactly_15 hl (by decide) rfl (fun ls hl => ?_)
      refine lv_iconst (v := 1) C.1 C.2.1 dL_divideExactly_17 (by decide) ?_
      refine W.widen (k := 2) (n := 9) (Nat.le_of_ble_eq_true rfl) (Nat.le_of_ble_eq_true rfl) ?_
      exact sx_iretK C f1 f2 f3 hr rfl dL_divideExactly_18
    · replace h := iN c7 h
      rcases Decidable.em (j6 = 2) with c8 | c8
      · replace h := ip c8 h
        subst c8
        cases h
        refine sx_xcallV (As := [.int v1, .int v2, .int v3]) (rest := [.int 0, .ref a4]) C hs (c_X11_divideExactly hfl ex2) mo_X11_divideExactly q807 i1 rfl rfl hl.1 ⟨⟨(Nat.le_of_ble_eq_true rfl), (Nat.le_of_ble_eq_true rfl)⟩, (Nat.le_of_ble_eq_true rfl), (Nat.le_of_ble_eq_true rfl)⟩ rfl (Nat.le_of_ble_eq_true rfl) dL_divideExactly_7 (fun k9 hk9 ce q9 H locs f1 f2 f3 f4 f5 f6 => ?_) (fun vr hv => (inlr hv).elim)
        obtain rfl := Sum.inl.inj hk9
        refine sx_catch (k := 2) (hp := [(0, 12, 15, 13)]) (hs9 := [(0, 12, 23, 27)]) (a9 := 0) (b9 := 12) (h9 := 19) (d9 := 33) C tb (List.forall_mem_cons.mpr ⟨⟨by decide, 0, q339, by decide⟩, (fun _ h => nomatch h)⟩) (by decide) (by decide) q569 f4 f5 f6 ?_
        refine lv_astore (lv' := [(5, .ref q9), (0, .ref a0), (1, .int v1), (2, .int v2), (3, .int v3), (4, .ref a4)]) C.1 C.2.1 dL_divideExactly_19 hl (by decide) rfl (fun ls hl => ?_)
        refine lv_iconst (v := 2) C.1 C.2.1 dL_divideExactly_21 (by decide) ?_
        refine W.widen (k := 2) (n := 9) (Nat.le_of_ble_eq_true rfl) (Nat.le_of_ble_eq_true rfl) ?_
        exact sx_iretK C f1 f2 f3 hr rfl dL_divideExactly_22
      · replace h := iN c8 h
        rcases Decidable.em (j6 = 3) with c9 | c9
        · replace h := ip c9 h
          subst c9
          cases h
          refine sx_xcallV (As := [.int v1, .int v2, .int v3]) (rest := [.int 0, .ref a4]) C hs (c_X11_divideExactly hfl ex2) mo_X11_divideExactly q807 i1 rfl rfl hl.1 ⟨⟨(Nat.le_of_ble_eq_true rfl), (Nat.le_of_ble_eq_true rfl)⟩, (Nat.le_of_ble_eq_true rfl), (Nat.le_of_ble_eq_true rfl)⟩ rfl (Nat.le_of_ble_eq_true rfl) dL_divideExactly_7 (fun k9 hk9 ce q9 H locs f1 f2 f3 f4 f5 f6 => ?_) (fun vr hv => (inlr hv).elim)
          obtain rfl := Sum.inl.inj hk9
          refine sx_catch (k := 3) (hp := [(0, 12, 15, 13), (0, 12, 19, 33)]) (hs9 := []) (a9 := 0) (b9 := 12) (h9 := 23) (d9 := 27) C tb (List.forall_mem_cons.mpr ⟨⟨by decide, 0, q339, by decide⟩, (List.forall_mem_cons.mpr ⟨⟨by decide, 2, q569, by decide⟩, (fun _ h => nomatch h)⟩)⟩) (by decide) (by decide) q526 f4 f5 f6 ?_
          refine lv_astore (lv' := [(5, .ref q9), (0, .ref a0), (1, .int v1), (2, .int v2), (3, .int v3), (4, .ref a4)]) C.1 C.2.1 dL_divideExactly_23 hl (by decide) rfl (fun ls hl => ?_)
          refine lv_iconst (v := 3) C.1 C.2.1 dL_divideExactly_25 (by decide) ?_
          refine W.widen (k := 2) (n := 9) (Nat.le_of_ble_eq_true rfl) (Nat.le_of_ble_eq_true rfl) ?_
          exact sx_iretK C f1 f2 f3 hr rfl dL_divideExactly_26
        · replace h := iN c9 h
          cases h
  · replace h := bsr h
    refine sx_xcallV (As := [.int v1, .int v2, .int v3]) (rest := [.int 0, .ref a4]) C hs (c_X11_divideExactly hfl ex2) mo_X11_divideExactly q807 i1 rfl rfl hl.1 ⟨⟨(Nat.le_of_ble_eq_true rfl), (Nat.le_of_ble_eq_true rfl)⟩, (Nat.le_of_ble_eq_true rfl), (Nat.le_of_ble_eq_true rfl)⟩ rfl (Nat.le_of_ble_eq_true rfl) dL_divideExactly_7 (fun k9 hk9 => (inrl hk9).elim) (fun vr hv H locs hs => ?_)
    obtain rfl := Sum.inr.inj hv
    refine W.eq (g2 := F0 m 10 ls [.int x2, .int 0, .ref a4]) rfl ?_
    refine W.widen (k := 2) (n := 9) (Nat.le_of_ble_eq_true rfl) (Nat.le_of_ble_eq_true rfl) ?_
    refine lv_i2l (v := Int32.toInt64 x2) C.1 C.2.1 dL_divideExactly_10 rfl ?_
    replace h := ob h; obtain ⟨τ10, eτ10, h⟩ := h
    refine sx_last C hs eτ10 dL_divideExactly_11 (fun H locs hs => ?_)
    refine lv_goto (tgt := 27) C.1 C.2.1 dL_divideExactly_12 (by decide) ?_
    refine lv_iconst (v := 0) C.1 C.2.1 dL_divideExactly_27 (by decide) ?_
    cases h
    exact sx_iretG C hs hr rfl dL_divideExactly_28
def f_L_compare (N : Nat) (σ : Sto) (sz : Nat) (a0 : Nat) (v1 : Int32) (v2 : Int32) (a3 : Nat) : Option (Int32 × Sto × Nat) :=
 (isO σ a0 10).bind fun _ =>
 (f_X11_compare N σ a0 v1 v2).bind fun u3 =>
 bs u3 (fun j4 => if j4 = 0 then some (1, σ, sz) else if j4 = 2 then some (2, σ, sz) else none) fun x2 =>
 (sL σ a3 2 0 (Int32.toInt64 x2)).bind fun τ7 =>
 some (0, τ7, sz)
set_option maxHeartbeats 4000000 in
set_option maxRecDepth 100000 in
theorem c_L_compare {l : Launch} (hfl : l.stackTraces = false) {g : PP} {N : Nat} {σ : Sto} {sz : Nat} {a0 : Nat} {v1 : Int32} {v2 : Int32} {a3 : Nat} {r9 : Int32} {σ9 : Sto} {sz9 : Nat} (h : f_L_compare N σ sz a0 v1 v2 a3 = some (r9, σ9, sz9)) : Met l yL_compare [Cond.codeWith yL_compare cL_compare 5 (some .int) [(0, 10, 13, 13), (0, 10, 17, 33)]] (rmk 11 1 6 218) (Pre g σ sz [.ref a0, .int v1, .int v2, .ref a3]) (PstG g (vI r9) σ9 sz9) 1 6 (Aw g) := by
  refine va_MetW (hh := [(0, 10, 13, 13), (0, 10, 17, 33)]) (cc := cL_compare) (maxL := 5) (ret := (some .int)) (by decide) rfl ?_
  intro p e s m args below meth c s₁ B hml hv
  obtain ⟨rfl, C, hs⟩ := ctx_of B hml hv
  have C : Cx g p s m meth c cL_compare 5 "TillhouseLaw" := C
  have hr := B.returns
  have tb := vx_table (x := yL_compare) B (C.2.2.2.2.1.1 _ cw_L_compare _)
  have hl := lv_entry ([.ref a0, .int v1, .int v2, .ref a3]) (n := 5) (Nat.le_of_ble_eq_true rfl)
  rw [lg_entry_eq]
  generalize (lg_sl ([.ref a0, .int v1, .int v2, .ref a3]) ++ List.replicate (5 - (lg_sl ([.ref a0, .int v1, .int v2, .ref a3])).length) Slot.unset).toArray = ls at hl ⊢
  have hl : lv_has ls 5 [(0, .ref a0), (1, .int v1), (2, .int v2), (3, .ref a3)] := hl
  unfold f_L_compare at h
  refine lv_aload_n C.1 C.2.1 dL_compare_0 rfl (lv_at hl 3 rfl) ?_
  refine lv_iconst (v := 0) C.1 C.2.1 dL_compare_1 (by decide) ?_
  refine lv_aload_n C.1 C.2.1 dL_compare_2 rfl (lv_at hl 0 rfl) ?_
  refine lv_iload_n C.1 C.2.1 dL_compare_3 rfl (lv_at hl 1 rfl) ?_
  refine lv_iload_n C.1 C.2.1 dL_compare_4 rfl (lv_at hl 2 rfl) ?_
  replace h := ob h; obtain ⟨⟨⟩, i1, h⟩ := h
  replace h := ob h; obtain ⟨u3, ex2, h⟩ := h
  rcases u3 with j4 | x2
  · replace h := bsl h
    rcases Decidable.em (j4 = 0) with c5 | c5
    · replace h := ip c5 h
      subst c5
      cases h
      refine sx_xcallV (As := [.int v1, .int v2]) (rest := [.int 0, .ref a3]) C hs (c_X11_compare hfl ex2) mo_X11_compare q819 i1 rfl rfl hl.1 ⟨⟨(Nat.le_of_ble_eq_true rfl), (Nat.le_of_ble_eq_true rfl)⟩, (Nat.le_of_ble_eq_true rfl), (Nat.le_of_ble_eq_true rfl)⟩ rfl (Nat.le_of_ble_eq_true rfl) dL_compare_5 (fun k9 hk9 ce q9 H locs f1 f2 f3 f4 f5 f6 => ?_) (fun vr hv => (inlr hv).elim)
      obtain rfl := Sum.inl.inj hk9
      refine sx_catch (k := 0) (hp := []) (hs9 := [(0, 10, 17, 33)]) (a9 := 0) (b9 := 10) (h9 := 13) (d9 := 13) C tb (fun _ h => nomatch h) (by decide) (by decide) q339 f4 f5 f6 ?_
      refine lv_astore (lv' := [(4, .ref q9), (0, .ref a0), (1, .int v1), (2, .int v2), (3, .ref a3)]) C.1 C.2.1 dL_compare_13 hl (by decide) rfl (fun ls hl => ?_)
      refine lv_iconst (v := 1) C.1 C.2.1 dL_compare_15 (by decide) ?_
      refine W.widen (k := 1) (n := 6) (Nat.le_of_ble_eq_true rfl) (Nat.le_of_ble_eq_true rfl) ?_
      exact sx_iretK C f1 f2 f3 hr rfl dL_compare_16
    · replace h := iN c5 h
      rcases Decidable.em (j4 = 2) with c6 | c6
      · replace h := ip c6 h
        subst c6
        cases h
        refine sx_xcallV (As := [.int v1, .int v2]) (rest := [.int 0, .ref a3]) C hs (c_X11_compare hfl ex2) mo_X11_compare q819 i1 rfl rfl hl.1 ⟨⟨(Nat.le_of_ble_eq_true rfl), (Nat.le_of_ble_eq_true rfl)⟩, (Nat.le_of_ble_eq_true rfl), (Nat.le_of_ble_eq_true rfl)⟩ rfl (Nat.le_of_ble_eq_true rfl) dL_compare_5 (fun k9 hk9 ce q9 H locs f1 f2 f3 f4 f5 f6 => ?_) (fun vr hv => (inlr hv).elim)
        obtain rfl := Sum.inl.inj hk9
        refine sx_catch (k := 2) (hp := [(0, 10, 13, 13)]) (hs9 := []) (a9 := 0) (b9 := 10) (h9 := 17) (d9 := 33) C tb (List.forall_mem_cons.mpr ⟨⟨by decide, 0, q339, by decide⟩, (fun _ h => nomatch h)⟩) (by decide) (by decide) q569 f4 f5 f6 ?_
        refine lv_astore (lv' := [(4, .ref q9), (0, .ref a0), (1, .int v1), (2, .int v2), (3, .ref a3)]) C.1 C.2.1 dL_compare_17 hl (by decide) rfl (fun ls hl => ?_)
        refine lv_iconst (v := 2) C.1 C.2.1 dL_compare_19 (by decide) ?_
        refine W.widen (k := 1) (n := 6) (Nat.le_of_ble_eq_true rfl) (Nat.le_of_ble_eq_true rfl) ?_
        exact sx_iretK C f1 f2 f3 hr rfl dL_compare_20
      · replace h := iN c6 h
        cases h
  · replace h := bsr h
    refine sx_xcallV (As := [.int v1, .int v2]) (rest := [.int 0, .ref a3]) C hs (c_X11_compare hfl ex2) mo_X11_compare q819 i1 rfl rfl hl.1 ⟨⟨(Nat.le_of_ble_eq_true rfl), (Nat.le_of_ble_eq_true rfl)⟩, (Nat.le_of_ble_eq_true rfl), (Nat.le_of_ble_eq_true rfl)⟩ rfl (Nat.le_of_ble_eq_true rfl) dL_compare_5 (fun k9 hk9 => (inrl hk9).elim) (fun vr hv H locs hs => ?_)
    obtain rfl := Sum.inr.inj hv
    refine W.eq (g2 := F0 m 8 ls [.int x2, .int 0, .ref a3]) rfl ?_
    refine W.widen (k := 0) (n := 0) (Nat.le_of_ble_eq_true rfl) (Nat.le_of_ble_eq_true rfl) ?_
    refine lv_i2l (v := Int32.toInt64 x2) C.1 C.2.1 dL_compare_8 rfl ?_
    replace h := ob h; obtain ⟨τ7, eτ7, h⟩ := h
    refine sx_last C hs eτ7 dL_compare_9 (fun H locs hs => ?_)
    refine lv_goto (tgt := 21) C.1 C.2.1 dL_compare_10 (by decide) ?_
    refine lv_iconst (v := 0) C.1 C.2.1 dL_compare_21 (by decide) ?_
    cases h
    refine W.widen (k := 1) (n := 6) (Nat.le_of_ble_eq_true rfl) (Nat.le_of_ble_eq_true rfl) ?_
    exact sx_iretG C hs hr rfl dL_compare_22
def f_L_isEqual (σ : Sto) (sz : Nat) (a0 : Nat) (v1 : Int32) (v2 : Int32) (a3 : Nat) : Option (Int32 × Sto × Nat) :=
 (isO σ a0 10).bind fun _ =>
 (f_X11_isEqual σ a0 v1 v2).bind fun u3 =>
 bs u3 (fun j4 => if j4 = 0 then some (1, σ, sz) else if j4 = 2 then some (2, σ, sz) else none) fun x2 =>
 if x2 = 0 then
 (sL σ a3 2 0 0).bind fun τ8 =>
 some (0, τ8, sz)
 else
 (sL σ a3 2 0 1).bind fun τ9 =>
 some (0, τ9, sz)
set_option maxHeartbeats 4000000 in
set_option maxRecDepth 100000 in
theorem c_L_isEqual {l : Launch} (hfl : l.stackTraces = false) {g : PP} {σ : Sto} {sz : Nat} {a0 : Nat} {v1 : Int32} {v2 : Int32} {a3 : Nat} {r9 : Int32} {σ9 : Sto} {sz9 : Nat} (h : f_L_isEqual σ sz a0 v1 v2 a3 = some (r9, σ9, sz9)) : Met l yL_isEqual [Cond.codeWith yL_isEqual cL_isEqual 5 (some .int) [(0, 17, 20, 13), (0, 17, 24, 33)]] (rmk 8 1 6 146) (Pre g σ sz [.ref a0, .int v1, .int v2, .ref a3]) (PstG g (vI r9) σ9 sz9) 1 6 (Aw g) := by
  refine va_MetW (hh := [(0, 17, 20, 13), (0, 17, 24, 33)]) (cc := cL_isEqual) (maxL := 5) (ret := (some .int)) (by decide) rfl ?_
  intro p e s m args below meth c s₁ B hml hv
  obtain ⟨rfl, C, hs⟩ := ctx_of B hml hv
  have C : Cx g p s m meth c cL_isEqual 5 "TillhouseLaw" := C
  have hr := B.returns
  have tb := vx_table (x := yL_isEqual) B (C.2.2.2.2.1.1 _ cw_L_isEqual _)
  have hl := lv_entry ([.ref a0, .int v1, .int v2, .ref a3]) (n := 5) (Nat.le_of_ble_eq_true rfl)
  rw [lg_entry_eq]
  generalize (lg_sl ([.ref a0, .int v1, .int v2, .ref a3]) ++ List.replicate (5 - (lg_sl ([.ref a0, .int v1, .int v2, .ref a3])).length) Slot.unset).toArray = ls at hl ⊢
  have hl : lv_has ls 5 [(0, .ref a0), (1, .int v1), (2, .int v2), (3, .ref a3)] := hl
  unfold f_L_isEqual at h
  refine lv_aload_n C.1 C.2.1 dL_isEqual_0 rfl (lv_at hl 3 rfl) ?_
  refine lv_iconst (v := 0) C.1 C.2.1 dL_isEqual_1 (by decide) ?_
  refine lv_aload_n C.1 C.2.1 dL_isEqual_2 rfl (lv_at hl 0 rfl) ?_
  refine lv_iload_n C.1 C.2.1 dL_isEqual_3 rfl (lv_at hl 1 rfl) ?_
  refine lv_iload_n C.1 C.2.1 dL_isEqual_4 rfl (lv_at hl 2 rfl) ?_
  replace h := ob h; obtain ⟨⟨⟩, i1, h⟩ := h
  replace h := ob h; obtain ⟨u3, ex2, h⟩ := h
  rcases u3 with j4 | x2
  · replace h := bsl h
    rcases Decidable.em (j4 = 0) with c5 | c5
    · replace h := ip c5 h
      subst c5
      cases h
      refine sx_xcallV (As := [.int v1, .int v2]) (rest := [.int 0, .ref a3]) C hs (c_X11_isEqual hfl ex2) mo_X11_isEqual q826 i1 rfl rfl hl.1 ⟨⟨(Nat.le_of_ble_eq_true rfl), (Nat.le_of_ble_eq_true rfl)⟩, (Nat.le_of_ble_eq_true rfl), (Nat.le_of_ble_eq_true rfl)⟩ rfl (Nat.le_of_ble_eq_true rfl) dL_isEqual_5 (fun k9 hk9 ce q9 H locs f1 f2 f3 f4 f5 f6 => ?_) (fun vr hv => (inlr hv).elim)
      obtain rfl := Sum.inl.inj hk9
      refine sx_catch (k := 0) (hp := []) (hs9 := [(0, 17, 24, 33)]) (a9 := 0) (b9 := 17) (h9 := 20) (d9 := 13) C tb (fun _ h => nomatch h) (by decide) (by decide) q339 f4 f5 f6 ?_
      refine lv_astore (lv' := [(4, .ref q9), (0, .ref a0), (1, .int v1), (2, .int v2), (3, .ref a3)]) C.1 C.2.1 dL_isEqual_20 hl (by decide) rfl (fun ls hl => ?_)
      refine lv_iconst (v := 1) C.1 C.2.1 dL_isEqual_22 (by decide) ?_
      refine W.widen (k := 1) (n := 6) (Nat.le_of_ble_eq_true rfl) (Nat.le_of_ble_eq_true rfl) ?_
      exact sx_iretK C f1 f2 f3 hr rfl dL_isEqual_23
    · replace h := iN c5 h
      rcases Decidable.em (j4 = 2) with c6 | c6
      · replace h := ip c6 h
        subst c6
        cases h
        refine sx_xcallV (As := [.int v1, .int v2]) (rest := [.int 0, .ref a3]) C hs (c_X11_isEqual hfl ex2) mo_X11_isEqual q826 i1 rfl rfl hl.1 ⟨⟨(Nat.le_of_ble_eq_true rfl), (Nat.le_of_ble_eq_true rfl)⟩, (Nat.le_of_ble_eq_true rfl), (Nat.le_of_ble_eq_true rfl)⟩ rfl (Nat.le_of_ble_eq_true rfl) dL_isEqual_5 (fun k9 hk9 ce q9 H locs f1 f2 f3 f4 f5 f6 => ?_) (fun vr hv => (inlr hv).elim)
        obtain rfl := Sum.inl.inj hk9
        refine sx_catch (k := 2) (hp := [(0, 17, 20, 13)]) (hs9 := []) (a9 := 0) (b9 := 17) (h9 := 24) (d9 := 33) C tb (List.forall_mem_cons.mpr ⟨⟨by decide, 0, q339, by decide⟩, (fun _ h => nomatch h)⟩) (by decide) (by decide) q569 f4 f5 f6 ?_
        refine lv_astore (lv' := [(4, .ref q9), (0, .ref a0), (1, .int v1), (2, .int v2), (3, .ref a3)]) C.1 C.2.1 dL_isEqual_24 hl (by decide) rfl (fun ls hl => ?_)
        refine lv_iconst (v := 2) C.1 C.2.1 dL_isEqual_26 (by decide) ?_
        refine W.widen (k := 1) (n := 6) (Nat.le_of_ble_eq_true rfl) (Nat.le_of_ble_eq_true rfl) ?_
        exact sx_iretK C f1 f2 f3 hr rfl dL_isEqual_27
      · replace h := iN c6 h
        cases h
  · replace h := bsr h
    refine sx_xcallV (As := [.int v1, .int v2]) (rest := [.int 0, .ref a3]) C hs (c_X11_isEqual hfl ex2) mo_X11_isEqual q826 i1 rfl rfl hl.1 ⟨⟨(Nat.le_of_ble_eq_true rfl), (Nat.le_of_ble_eq_true rfl)⟩, (Nat.le_of_ble_eq_true rfl), (Nat.le_of_ble_eq_true rfl)⟩ rfl (Nat.le_of_ble_eq_true rfl) dL_isEqual_5 (fun k9 hk9 => (inrl hk9).elim) (fun vr hv H locs hs => ?_)
    obtain rfl := Sum.inr.inj hv
    refine W.eq (g2 := F0 m 8 ls [.int x2, .int 0, .ref a3]) rfl ?_
    refine W.widen (k := 0) (n := 0) (Nat.le_of_ble_eq_true rfl) (Nat.le_of_ble_eq_true rfl) ?_
    refine lv_if_eq (tgt := 15) C.1 C.2.1 dL_isEqual_8 (by decide) (fun c7 => ?_) (fun c7 => ?_)
    · replace h := ip c7 h
      refine lv_lconst (v := 0) C.1 C.2.1 dL_isEqual_15 (by decide) ?_
      replace h := ob h; obtain ⟨τ8, eτ8, h⟩ := h
      refine sx_last C hs eτ8 dL_isEqual_16 (fun H locs hs => ?_)
      refine lv_goto (tgt := 28) C.1 C.2.1 dL_isEqual_17 (by decide) ?_
      refine lv_iconst (v := 0) C.1 C.2.1 dL_isEqual_28 (by decide) ?_
      cases h
      refine W.widen (k := 1) (n := 6) (Nat.le_of_ble_eq_true rfl) (Nat.le_of_ble_eq_true rfl) ?_
      exact sx_iretG C hs hr rfl dL_isEqual_29
    · replace h := iN c7 h
      refine lv_lconst (v := 1) C.1 C.2.1 dL_isEqual_11 (by decide) ?_
      refine lv_goto (tgt := 16) C.1 C.2.1 dL_isEqual_12 (by decide) ?_
      replace h := ob h; obtain ⟨τ9, eτ9, h⟩ := h
      refine sx_last C hs eτ9 dL_isEqual_16 (fun H locs hs => ?_)
      refine lv_goto (tgt := 28) C.1 C.2.1 dL_isEqual_17 (by decide) ?_
      refine lv_iconst (v := 0) C.1 C.2.1 dL_isEqual_28 (by decide) ?_
      cases h
      refine W.widen (k := 1) (n := 6) (Nat.le_of_ble_eq_true rfl) (Nat.le_of_ble_eq_true rfl) ?_
      exact sx_iretG C hs hr rfl dL_isEqual_29
def f_L_setCurrency (σ : Sto) (sz : Nat) (a0 : Nat) (v1 : Int32) (v2 : Int32) (v3 : Int32) (v4 : Int32) (a5 : Nat) : Option (Int32 × Sto × Nat) :=
 (isO σ a0 10).bind fun _ =>
 b2 (f_X11_setCurrency σ a0 v1 v2 v3 v4) fun u4 τ3 =>
 bs u4 (fun j5 => if j5 = 0 then some (1, τ3, sz) else if j5 = 1 then some (2, τ3, sz) else none) fun x2 =>
 (sL τ3 a5 2 0 (Int32.toInt64 x2)).bind fun τ8 =>
 some (0, τ8, sz)
set_option maxHeartbeats 4000000 in
set_option maxRecDepth 100000 in
theorem c_L_setCurrency {l : Launch} (hfl : l.stackTraces = false) {g : PP} {σ : Sto} {sz : Nat} {a0 : Nat} {v1 : Int32} {v2 : Int32} {v3 : Int32} {v4 : Int32} {a5 : Nat} {r9 : Int32} {σ9 : Sto} {sz9 : Nat} (h : f_L_setCurrency σ sz a0 v1 v2 v3 v4 a5 = some (r9, σ9, sz9)) : Met l yL_setCurrency [Cond.codeWith yL_setCurrency cL_setCurrency 7 (some .int) [(0, 14, 17, 13), (0, 14, 21, 15)]] (rmk 8 1 6 151) (Pre g σ sz [.ref a0, .int v1, .int v2, .int v3, .int v4, .ref a5]) (PstG g (vI r9) σ9 sz9) 1 6 (Aw g) := by
  refine va_MetW (hh := [(0, 14, 17, 13), (0, 14, 21, 15)]) (cc := cL_setCurrency) (maxL := 7) (ret := (some .int)) (by decide) rfl ?_
  intro p e s m args below meth c s₁ B hml hv
  obtain ⟨rfl, C, hs⟩ := ctx_of B hml hv
  have C : Cx g p s m meth c cL_setCurrency 7 "TillhouseLaw" := C
  have hr := B.returns
  have tb := vx_table (x := yL_setCurrency) B (C.2.2.2.2.1.1 _ cw_L_setCurrency _)
  have hl := lv_entry ([.ref a0, .int v1, .int v2, .int v3, .int v4, .ref a5]) (n := 7) (Nat.le_of_ble_eq_true rfl)
  rw [lg_entry_eq]
  generalize (lg_sl ([.ref a0, .int v1, .int v2, .int v3, .int v4, .ref a5]) ++ List.replicate (7 - (lg_sl ([.ref a0, .int v1, .int v2, .int v3, .int v4, .ref a5])).length) Slot.unset).toArray = ls at hl ⊢
  have hl : lv_has ls 7 [(0, .ref a0), (1, .int v1), (2, .int v2), (3, .int v3), (4, .int v4), (5, .ref a5)] := hl
  unfold f_L_setCurrency at h
  refine lv_aload C.1 C.2.1 dL_setCurrency_0 (lv_at hl 5 rfl) ?_
  refine lv_iconst (v := 0) C.1 C.2.1 dL_setCurrency_2 (by decide) ?_
  refine lv_aload_n C.1 C.2.1 dL_setCurrency_3 rfl (lv_at hl 0 rfl) ?_
  refine lv_iload_n C.1 C.2.1 dL_setCurrency_4 rfl (lv_at hl 1 rfl) ?_
  refine lv_iload_n C.1 C.2.1 dL_setCurrency_5 rfl (lv_at hl 2 rfl) ?_
  refine lv_iload_n C.1 C.2.1 dL_setCurrency_6 rfl (lv_at hl 3 rfl) ?_
  refine lv_iload C.1 C.2.1 dL_setCurrency_7 (lv_at hl 4 rfl) ?_
  replace h := ob h; obtain ⟨⟨⟩, i1, h⟩ := h
  replace h := ob2 h; obtain ⟨u4, τ3, ex2, h⟩ := h
  rcases u4 with j5 | x2
  · replace h := bsl h
    rcases Decidable.em (j5 = 0) with c6 | c6
    · replace h := ip c6 h
      subst c6
      cases h
      refine sx_xcallV (As := [.int v1, .int v2, .int v3, .int v4]) (rest := [.int 0, .ref a5]) C hs (c_X11_setCurrency hfl ex2) mo_X11_setCurrency q833 i1 rfl rfl hl.1 ⟨⟨(Nat.le_of_ble_eq_true rfl), (Nat.le_of_ble_eq_true rfl)⟩, (Nat.le_of_ble_eq_true rfl), (Nat.le_of_ble_eq_true rfl)⟩ rfl (Nat.le_of_ble_eq_true rfl) dL_setCurrency_9 (fun k9 hk9 ce q9 H locs f1 f2 f3 f4 f5 f6 => ?_) (fun vr hv => (inlr hv).elim)
      obtain rfl := Sum.inl.inj hk9
      refine sx_catch (k := 0) (hp := []) (hs9 := [(0, 14, 21, 15)]) (a9 := 0) (b9 := 14) (h9 := 17) (d9 := 13) C tb (fun _ h => nomatch h) (by decide) (by decide) q339 f4 f5 f6 ?_
      refine lv_astore (lv' := [(6, .ref q9), (0, .ref a0), (1, .int v1), (2, .int v2), (3, .int v3), (4, .int v4), (5, .ref a5)]) C.1 C.2.1 dL_setCurrency_17 hl (by decide) rfl (fun ls hl => ?_)
      refine lv_iconst (v := 1) C.1 C.2.1 dL_setCurrency_19 (by decide) ?_
      refine W.widen (k := 1) (n := 6) (Nat.le_of_ble_eq_true rfl) (Nat.le_of_ble_eq_true rfl) ?_
      exact sx_iretK C f1 f2 f3 hr rfl dL_setCurrency_20
    · replace h := iN c6 h
      rcases Decidable.em (j5 = 1) with c7 | c7
      · replace h := ip c7 h
        subst c7
        cases h
        refine sx_xcallV (As := [.int v1, .int v2, .int v3, .int v4]) (rest := [.int 0, .ref a5]) C hs (c_X11_setCurrency hfl ex2) mo_X11_setCurrency q833 i1 rfl rfl hl.1 ⟨⟨(Nat.le_of_ble_eq_true rfl), (Nat.le_of_ble_eq_true rfl)⟩, (Nat.le_of_ble_eq_true rfl), (Nat.le_of_ble_eq_true rfl)⟩ rfl (Nat.le_of_ble_eq_true rfl) dL_setCurrency_9 (fun k9 hk9 ce q9 H locs f1 f2 f3 f4 f5 f6 => ?_) (fun vr hv => (inlr hv).elim)
        obtain rfl := Sum.inl.inj hk9
        refine sx_catch (k := 1) (hp := [(0, 14, 17, 13)]) (hs9 := []) (a9 := 0) (b9 := 14) (h9 := 21) (d9 := 15) C tb (List.forall_mem_cons.mpr ⟨⟨by decide, 0, q339, by decide⟩, (fun _ h => nomatch h)⟩) (by decide) (by decide) q419 f4 f5 f6 ?_
        refine lv_astore (lv' := [(6, .ref q9), (0, .ref a0), (1, .int v1), (2, .int v2), (3, .int v3), (4, .int v4), (5, .ref a5)]) C.1 C.2.1 dL_setCurrency_21 hl (by decide) rfl (fun ls hl => ?_)
        refine lv_iconst (v := 2) C.1 C.2.1 dL_setCurrency_23 (by decide) ?_
        refine W.widen (k := 1) (n := 6) (Nat.le_of_ble_eq_true rfl) (Nat.le_of_ble_eq_true rfl) ?_
        exact sx_iretK C f1 f2 f3 hr rfl dL_setCurrency_24
      · replace h := iN c7 h
        cases h
  · replace h := bsr h
    refine sx_xcallV (As := [.int v1, .int v2, .int v3, .int v4]) (rest := [.int 0, .ref a5]) C hs (c_X11_setCurrency hfl ex2) mo_X11_setCurrency q833 i1 rfl rfl hl.1 ⟨⟨(Nat.le_of_ble_eq_true rfl), (Nat.le_of_ble_eq_true rfl)⟩, (Nat.le_of_ble_eq_true rfl), (Nat.le_of_ble_eq_true rfl)⟩ rfl (Nat.le_of_ble_eq_true rfl) dL_setCurrency_9 (fun k9 hk9 => (inrl hk9).elim) (fun vr hv H locs hs => ?_)
    obtain rfl := Sum.inr.inj hv
    refine W.eq (g2 := F0 m 12 ls [.int x2, .int 0, .ref a5]) rfl ?_
    refine W.widen (k := 0) (n := 0) (Nat.le_of_ble_eq_true rfl) (Nat.le_of_ble_eq_true rfl) ?_
    refine lv_i2l (v := Int32.toInt64 x2) C.1 C.2.1 dL_setCurrency_12 rfl ?_
    replace h := ob h; obtain ⟨τ8, eτ8, h⟩ := h
    refine sx_last C hs eτ8 dL_setCurrency_13 (fun H locs hs => ?_)
    refine lv_goto (tgt := 25) C.1 C.2.1 dL_setCurrency_14 (by decide) ?_
    refine lv_iconst (v := 0) C.1 C.2.1 dL_setCurrency_25 (by decide) ?_
    cases h
    refine W.widen (k := 1) (n := 6) (Nat.le_of_ble_eq_true rfl) (Nat.le_of_ble_eq_true rfl) ?_
    exact sx_iretG C hs hr rfl dL_setCurrency_26
def f_L_setRate (σ : Sto) (sz : Nat) (a0 : Nat) (v1 : Int32) (v2 : Int32) (v3 : Int32) (a4 : Nat) : Option (Int32 × Sto × Nat) :=
 (isO σ a0 10).bind fun _ =>
 b2 (f_X11_setRate σ a0 v1 v2 v3) fun u4 τ3 =>
 bs u4 (fun j5 => if j5 = 0 then some (1, τ3, sz) else if j5 = 1 then some (2, τ3, sz) else if j5 = 2 then some (3, τ3, sz) else if j5 = 3 then some (4, τ3, sz) else none) fun x2 =>
 if x2 = 0 then
 (sL τ3 a4 2 0 0).bind fun τ11 =>
 some (0, τ11, sz)
 else
 (sL τ3 a4 2 0 1).bind fun τ12 =>
 some (0, τ12, sz)
set_option maxHeartbeats 4000000 in
set_option maxRecDepth 100000 in
theorem c_L_setRate {l : Launch} (hfl : l.stackTraces = false) {g : PP} {σ : Sto} {sz : Nat} {a0 : Nat} {v1 : Int32} {v2 : Int32} {v3 : Int32} {a4 : Nat} {r9 : Int32} {σ9 : Sto} {sz9 : Nat} (h : f_L_setRate σ sz a0 v1 v2 v3 a4 = some (r9, σ9, sz9)) : Met l yL_setRate [Cond.codeWith yL_setRate cL_setRate 6 (some .int) [(0, 19, 22, 13), (0, 19, 26, 15), (0, 19, 30, 33), (0, 19, 34, 27)]] (rmk 8 1 6 147) (Pre g σ sz [.ref a0, .int v1, .int v2, .int v3, .ref a4]) (PstG g (vI r9) σ9 sz9) 1 6 (Aw g) := by
  refine va_MetW (hh := [(0, 19, 22, 13), (0, 19, 26, 15), (0, 19, 30, 33), (0, 19, 34, 27)]) (cc := cL_setRate) (maxL := 6) (ret := (some .int)) (by decide) rfl ?_
  intro p e s m args below meth c s₁ B hml hv
  obtain ⟨rfl, C, hs⟩ := ctx_of B hml hv
  have C : Cx g p s m meth c cL_setRate 6 "TillhouseLaw" := C
  have hr := B.returns
  have tb := vx_table (x := yL_setRate) B (C.2.2.2.2.1.1 _ cw_L_setRate _)
  have hl := lv_entry ([.ref a0, .int v1, .int v2, .int v3, .ref a4]) (n := 6) (Nat.le_of_ble_eq_true rfl)
  rw [lg_entry_eq]
  generalize (lg_sl ([.ref a0, .int v1, .int v2, .int v3, .ref a4]) ++ List.replicate (6 - (lg_sl ([.ref a0, .int v1, .int v2, .int v3, .ref a4])).length) Slot.unset).toArray = ls at hl ⊢
  have hl : lv_has ls 6 [(0, .ref a0), (1, .int v1), (2, .int v2), (3, .int v3), (4, .ref a4)] := hl
  unfold f_L_setRate at h
  refine lv_aload C.1 C.2.1 dL_setRate_0 (lv_at hl 4 rfl) ?_
  refine lv_iconst (v := 0) C.1 C.2.1 dL_setRate_2 (by decide) ?_
  refine lv_aload_n C.1 C.2.1 dL_setRate_3 rfl (lv_at hl 0 rfl) ?_
  refine lv_iload_n C.1 C.2.1 dL_setRate_4 rfl (lv_at hl 1 rfl) ?_
  refine lv_iload_n C.1 C.2.1 dL_setRate_5 rfl (lv_at hl 2 rfl) ?_
  refine lv_iload_n C.1 C.2.1 dL_setRate_6 rfl (lv_at hl 3 rfl) ?_
  replace h := ob h; obtain ⟨⟨⟩, i1, h⟩ := h
  replace h := ob2 h; obtain ⟨u4, τ3, ex2, h⟩ := h
  rcases u4 with j5 | x2
  · replace h := bsl h
    rcases Decidable.em (j5 = 0) with c6 | c6
    · replace h := ip c6 h
      subst c6
      cases h
      refine sx_xcallV (As := [.int v1, .int v2, .int v3]) (rest := [.int 0, .ref a4]) C hs (c_X11_setRate hfl ex2) mo_X11_setRate q850 i1 rfl rfl hl.1 ⟨⟨(Nat.le_of_ble_eq_true rfl), (Nat.le_of_ble_eq_true rfl)⟩, (Nat.le_of_ble_eq_true rfl), (Nat.le_of_ble_eq_true rfl)⟩ rfl (Nat.le_of_ble_eq_true rfl) dL_setRate_7 (fun k9 hk9 ce q9 H locs f1 f2 f3 f4 f5 f6 => ?_) (fun vr hv => (inlr hv).elim)
      obtain rfl := Sum.inl.inj hk9
      refine sx_catch (k := 0) (hp := []) (hs9 := [(0, 19, 26, 15), (0, 19, 30, 33), (0, 19, 34, 27)]) (a9 := 0) (b9 := 19) (h9 := 22) (d9 := 13) C tb (fun _ h => nomatch h) (by decide) (by decide) q339 f4 f5 f6 ?_
      refine lv_astore (lv' := [(5, .ref q9), (0, .ref a0), (1, .int v1), (2, .int v2), (3, .int v3), (4, .ref a4)]) C.1 C.2.1 dL_setRate_22 hl (by decide) rfl (fun ls hl => ?_)
      refine lv_iconst (v := 1) C.1 C.2.1 dL_setRate_24 (by decide) ?_
      refine W.widen (k := 1) (n := 6) (Nat.le_of_ble_eq_true rfl) (Nat.le_of_ble_eq_true rfl) ?_
      exact sx_iretK C f1 f2 f3 hr rfl dL_setRate_25
    · replace h := iN c6 h
      rcases Decidable.em (j5 = 1) with c7 | c7
      · replace h := ip c7 h
        subst c7
        cases h
        refine sx_xcallV (As := [.int v1, .int v2, .int v3]) (rest := [.int 0, .ref a4]) C hs (c_X11_setRate hfl ex2) mo_X11_setRate q850 i1 rfl rfl hl.1 ⟨⟨(Nat.le_of_ble_eq_true rfl), (Nat.le_of_ble_eq_true rfl)⟩, (Nat.le_of_ble_eq_true rfl), (Nat.le_of_ble_eq_true rfl)⟩ rfl (Nat.le_of_ble_eq_true rfl) dL_setRate_7 (fun k9 hk9 ce q9 H locs f1 f2 f3 f4 f5 f6 => ?_) (fun vr hv => (inlr hv).elim)
        obtain rfl := Sum.inl.inj hk9
        refine sx_catch (k := 1) (hp := [(0, 19, 22, 13)]) (hs9 := [(0, 19, 30, 33), (0, 19, 34, 27)]) (a9 := 0) (b9 := 19) (h9 := 26) (d9 := 15) C tb (List.forall_mem_cons.mpr ⟨⟨by decide, 0, q339, by decide⟩, (fun _ h => nomatch h)⟩) (by decide) (by decide) q419 f4 f5 f6 ?_
        refine lv_astore (lv' := [(5, .ref q9), (0, .ref a0), (1, .int v1), (2, .int v2), (3, .int v3), (4, .ref a4)]) C.1 C.2.1 dL_setRate_26 hl (by decide) rfl (fun ls hl => ?_)
        refine lv_iconst (v := 2) C.1 C.2.1 dL_setRate_28 (by decide) ?_
        refine W.widen (k := 1) (n := 6) (Nat.le_of_ble_eq_true rfl) (Nat.le_of_ble_eq_true rfl) ?_
        exact sx_iretK C f1 f2 f3 hr rfl dL_setRate_29
      · replace h := iN c7 h
        rcases Decidable.em (j5 = 2) with c8 | c8
        · replace h := ip c8 h
          subst c8
          cases h
          refine sx_xcallV (As := [.int v1, .int v2, .int v3]) (rest := [.int 0, .ref a4]) C hs (c_X11_setRate hfl ex2) mo_X11_setRate q850 i1 rfl rfl hl.1 ⟨⟨(Nat.le_of_ble_eq_true rfl), (Nat.le_of_ble_eq_true rfl)⟩, (Nat.le_of_ble_eq_true rfl), (Nat.le_of_ble_eq_true rfl)⟩ rfl (Nat.le_of_ble_eq_true rfl) dL_setRate_7 (fun k9 hk9 ce q9 H locs f1 f2 f3 f4 f5 f6 => ?_) (fun vr hv => (inlr hv).elim)
          obtain rfl := Sum.inl.inj hk9
          refine sx_catch (k := 2) (hp := [(0, 19, 22, 13), (0, 19, 26, 15)]) (hs9 := [(0, 19, 34, 27)]) (a9 := 0) (b9 := 19) (h9 := 30) (d9 := 33) C tb (List.forall_mem_cons.mpr ⟨⟨by decide, 0, q339, by decide⟩, (List.forall_mem_cons.mpr ⟨⟨by decide, 1, q419, by decide⟩, (fun _ h => nomatch h)⟩)⟩) (by decide) (by decide) q569 f4 f5 f6 ?_
          refine lv_astore (lv' := [(5, .ref q9), (0, .ref a0), (1, .int v1), (2, .int v2), (3, .int v3), (4, .ref a4)]) C.1 C.2.1 dL_setRate_30 hl (by decide) rfl (fun ls hl => ?_)
          refine lv_iconst (v := 3) C.1 C.2.1 dL_setRate_32 (by decide) ?_
          refine W.widen (k := 1) (n := 6) (Nat.le_of_ble_eq_true rfl) (Nat.le_of_ble_eq_true rfl) ?_
          exact sx_iretK C f1 f2 f3 hr rfl dL_setRate_33
        · replace h := iN c8 h
          rcases Decidable.em (j5 = 3) with c9 | c9
          · replace h := ip c9 h
            subst c9
            cases h
            refine sx_xcallV (As := [.int v1, .int v2, .int v3]) (rest := [.int 0, .ref a4]) C hs (c_X11_setRate hfl ex2) mo_X11_setRate q850 i1 rfl rfl hl.1 ⟨⟨(Nat.le_of_ble_eq_true rfl), (Nat.le_of_ble_eq_true rfl)⟩, (Nat.le_of_ble_eq_true rfl), (Nat.le_of_ble_eq_true rfl)⟩ rfl (Nat.le_of_ble_eq_true rfl) dL_setRate_7 (fun k9 hk9 ce q9 H locs f1 f2 f3 f4 f5 f6 => ?_) (fun vr hv => (inlr hv).elim)
            obtain rfl := Sum.inl.inj hk9
            refine sx_catch (k := 3) (hp := [(0, 19, 22, 13), (0, 19, 26, 15), (0, 19, 30, 33)]) (hs9 := []) (a9 := 0) (b9 := 19) (h9 := 34) (d9 := 27) C tb (List.forall_mem_cons.mpr ⟨⟨by decide, 0, q339, by decide⟩, (List.forall_mem_cons.mpr ⟨⟨by decide, 1, q419, by decide⟩, (List.forall_mem_cons.mpr ⟨⟨by decide, 2, q569, by decide⟩, (fun _ h => nomatch h)⟩)⟩)⟩) (by decide) (by decide) q526 f4 f5 f6 ?_
            refine lv_astore (lv' := [(5, .ref q9), (0, .ref a0), (1, .int v1), (2, .int v2), (3, .int v3), (4, .ref a4)]) C.1 C.2.1 dL_setRate_34 hl (by decide) rfl (fun ls hl => ?_)
            refine lv_iconst (v := 4) C.1 C.2.1 dL_setRate_36 (by decide) ?_
            refine W.widen (k := 1) (n := 6) (Nat.le_of_ble_eq_true rfl) (Nat.le_of_ble_eq_true rfl) ?_
            exact sx_iretK C f1 f2 f3 hr rfl dL_setRate_37
          · replace h := iN c9 h
            cases h
  · replace h := bsr h
    refine sx_xcallV (As := [.int v1, .int v2, .int v3]) (rest := [.int 0, .ref a4]) C hs (c_X11_setRate hfl ex2) mo_X11_setRate q850 i1 rfl rfl hl.1 ⟨⟨(Nat.le_of_ble_eq_true rfl), (Nat.le_of_ble_eq_true rfl)⟩, (Nat.le_of_ble_eq_true rfl), (Nat.le_of_ble_eq_true rfl)⟩ rfl (Nat.le_of_ble_eq_true rfl) dL_setRate_7 (fun k9 hk9 => (inrl hk9).elim) (fun vr hv H locs hs => ?_)
    obtain rfl := Sum.inr.inj hv
    refine W.eq (g2 := F0 m 10 ls [.int x2, .int 0, .ref a4]) rfl ?_
    refine W.widen (k := 0) (n := 0) (Nat.le_of_ble_eq_true rfl) (Nat.le_of_ble_eq_true rfl) ?_
    refine lv_if_eq (tgt := 17) C.1 C.2.1 dL_setRate_10 (by decide) (fun c10 => ?_) (fun c10 => ?_)
    · replace h := ip c10 h
      refine lv_lconst (v := 0) C.1 C.2.1 dL_setRate_17 (by decide) ?_
      replace h := ob h; obtain ⟨τ11, eτ11, h⟩ := h
      refine sx_last C hs eτ11 dL_setRate_18 (fun H locs hs => ?_)
      refine lv_goto (tgt := 38) C.1 C.2.1 dL_setRate_19 (by decide) ?_
      refine lv_iconst (v := 0) C.1 C.2.1 dL_setRate_38 (by decide) ?_
      cases h
      refine W.widen (k := 1) (n := 6) (Nat.le_of_ble_eq_true rfl) (Nat.le_of_ble_eq_true rfl) ?_
      exact sx_iretG C hs hr rfl dL_setRate_39
    · replace h := iN c10 h
      refine lv_lconst (v := 1) C.1 C.2.1 dL_setRate_13 (by decide) ?_
      refine lv_goto (tgt := 18) C.1 C.2.1 dL_setRate_14 (by decide) ?_
      replace h := ob h; obtain ⟨τ12, eτ12, h⟩ := h
      refine sx_last C hs eτ12 dL_setRate_18 (fun H locs hs => ?_)
      refine lv_goto (tgt := 38) C.1 C.2.1 dL_setRate_19 (by decide) ?_
      refine lv_iconst (v := 0) C.1 C.2.1 dL_setRate_38 (by decide) ?_
      cases h
      refine W.widen (k := 1) (n := 6) (Nat.le_of_ble_eq_true rfl) (Nat.le_of_ble_eq_true rfl) ?_
      exact sx_iretG C hs hr rfl dL_setRate_39
def f_L_change (σ : Sto) (sz : Nat) (a0 : Nat) (v1 : Int32) (v2 : Int32) (v3 : Int64) (a5 : Nat) : Option (Int32 × Sto × Nat) :=
 (isO σ a0 10).bind fun _ =>
 b3 (f_X11_change σ sz a0 v1 v2 v3) fun u5 τ3 y4 =>
 bs u5 (fun j6 => if j6 = 0 then some (1, τ3, y4) else if j6 = 1 then some (2, τ3, y4) else if j6 = 2 then some (3, τ3, y4) else if j6 = 3 then some (4, τ3, y4) else none) fun x2 =>
 (sL τ3 a5 2 0 x2).bind fun τ11 =>
 some (0, τ11, y4)
set_option maxHeartbeats 4000000 in
set_option maxRecDepth 100000 in
theorem c_L_change {l : Launch} (hfl : l.stackTraces = false) {g : PP} {σ : Sto} {sz : Nat} {a0 : Nat} {v1 : Int32} {v2 : Int32} {v3 : Int64} {a5 : Nat} {r9 : Int32} {σ9 : Sto} {sz9 : Nat} (h : f_L_change σ sz a0 v1 v2 v3 a5 = some (r9, σ9, sz9)) : Met l yL_change [Cond.codeWith yL_change cL_change 7 (some .int) [(0, 11, 14, 13), (0, 11, 18, 15), (0, 11, 22, 33), (0, 11, 26, 27)]] (rmk 12 2 8 244) (Pre g σ sz [.ref a0, .int v1, .int v2, .long v3, .ref a5]) (PstG g (vI r9) σ9 sz9) 2 8 (Aw g) := by
  refine va_MetW (hh := [(0, 11, 14, 13), (0, 11, 18, 15), (0, 11, 22, 33), (0, 11, 26, 27)]) (cc := cL_change) (maxL := 7) (ret := (some .int)) (by decide) rfl ?_
  intro p e s m args below meth c s₁ B hml hv
  obtain ⟨rfl, C, hs⟩ := ctx_of B hml hv
  have C : Cx g p s m meth c cL_change 7 "TillhouseLaw" := C
  have hr := B.returns
  have tb := vx_table (x := yL_change) B (C.2.2.2.2.1.1 _ cw_L_change _)
  have hl := lv_entry ([.ref a0, .int v1, .int v2, .long v3, .ref a5]) (n := 7) (Nat.le_of_ble_eq_true rfl)
  rw [lg_entry_eq]
  generalize (lg_sl ([.ref a0, .int v1, .int v2, .long v3, .ref a5]) ++ List.replicate (7 - (lg_sl ([.ref a0, .int v1, .int v2, .long v3, .ref a5])).length) Slot.unset).toArray = ls at hl ⊢
  have hl : lv_has ls 7 [(0, .ref a0), (1, .int v1), (2, .int v2), (3, .long v3), (5, .ref a5)] := hl
  unfold f_L_change at h
  refine lv_aload C.1 C.2.1 dL_change_0 (lv_at hl 4 rfl) ?_
  refine lv_iconst (v := 0) C.1 C.2.1 dL_change_2 (by decide) ?_
  refine lv_aload_n C.1 C.2.1 dL_change_3 rfl (lv_at hl 0 rfl) ?_
  refine lv_iload_n C.1 C.2.1 dL_change_4 rfl (lv_at hl 1 rfl) ?_
  refine lv_iload_n C.1 C.2.1 dL_change_5 rfl (lv_at hl 2 rfl) ?_
  refine lv_lload_n C.1 C.2.1 dL_change_6 rfl (lv_at hl 3 rfl) ?_
  replace h := ob h; obtain ⟨⟨⟩, i1, h⟩ := h
  replace h := ob3 h; obtain ⟨u5, τ3, y4, ex2, h⟩ := h
  rcases u5 with j6 | x2
  · replace h := bsl h
    rcases Decidable.em (j6 = 0) with c7 | c7
    · replace h := ip c7 h
      subst c7
      cases h
      refine sx_xcallV (As := [.int v1, .int v2, .long v3]) (rest := [.int 0, .ref a5]) C hs (c_X11_change hfl ex2) mo_X11_change q868 i1 rfl rfl hl.1 ⟨⟨(Nat.le_of_ble_eq_true rfl), (Nat.le_of_ble_eq_true rfl)⟩, (Nat.le_of_ble_eq_true rfl), (Nat.le_of_ble_eq_true rfl)⟩ rfl (Nat.le_of_ble_eq_true rfl) dL_change_7 (fun k9 hk9 ce q9 H locs f1 f2 f3 f4 f5 f6 => ?_) (fun vr hv => (inlr hv).elim)
      obtain rfl := Sum.inl.inj hk9
      refine sx_catch (k := 0) (hp := []) (hs9 := [(0, 11, 18, 15), (0, 11, 22, 33), (0, 11, 26, 27)]) (a9 := 0) (b9 := 11) (h9 := 14) (d9 := 13) C tb (fun _ h => nomatch h) (by decide) (by decide) q339 f4 f5 f6 ?_
      refine lv_astore (lv' := [(6, .ref q9), (0, .ref a0), (1, .int v1), (2, .int v2), (3, .long v3), (5, .ref a5)]) C.1 C.2.1 dL_change_14 hl (by decide) rfl (fun ls hl => ?_)
      refine lv_iconst (v := 1) C.1 C.2.1 dL_change_16 (by decide) ?_
      refine W.widen (k := 2) (n := 8) (Nat.le_of_ble_eq_true rfl) (Nat.le_of_ble_eq_true rfl) ?_
      exact sx_iretK C f1 f2 f3 hr rfl dL_change_17
    · replace h := iN c7 h
      rcases Decidable.em (j6 = 1) with c8 | c8
      · replace h := ip c8 h
        subst c8
        cases h
        refine sx_xcallV (As := [.int v1, .int v2, .long v3]) (rest := [.int 0, .ref a5]) C hs (c_X11_change hfl ex2) mo_X11_change q868 i1 rfl rfl hl.1 ⟨⟨(Nat.le_of_ble_eq_true rfl), (Nat.le_of_ble_eq_true rfl)⟩, (Nat.le_of_ble_eq_true rfl), (Nat.le_of_ble_eq_true rfl)⟩ rfl (Nat.le_of_ble_eq_true rfl) dL_change_7 (fun k9 hk9 ce q9 H locs f1 f2 f3 f4 f5 f6 => ?_) (fun vr hv => (inlr hv).elim)
        obtain rfl := Sum.inl.inj hk9
        refine sx_catch (k := 1) (hp := [(0, 11, 14, 13)]) (hs9 := [(0, 11, 22, 33), (0, 11, 26, 27)]) (a9 := 0) (b9 := 11) (h9 := 18) (d9 := 15) C tb (List.forall_mem_cons.mpr ⟨⟨by decide, 0, q339, by decide⟩, (fun _ h => nomatch h)⟩) (by decide) (by decide) q419 f4 f5 f6 ?_
        refine lv_astore (lv' := [(6, .ref q9), (0, .ref a0), (1, .int v1), (2, .int v2), (3, .long v3), (5, .ref a5)]) C.1 C.2.1 dL_change_18 hl (by decide) rfl (fun ls hl => ?_)
        refine lv_iconst (v := 2) C.1 C.2.1 dL_change_20 (by decide) ?_
        refine W.widen (k := 2) (n := 8) (Nat.le_of_ble_eq_true rfl) (Nat.le_of_ble_eq_true rfl) ?_
        exact sx_iretK C f1 f2 f3 hr rfl dL_change_21
      · replace h := iN c8 h
        rcases Decidable.em (j6 = 2) with c9 | c9
        · replace h := ip c9 h
          subst c9
          cases h
          refine sx_xcallV (As := [.int v1, .int v2, .long v3]) (rest := [.int 0, .ref a5]) C hs (c_X11_change hfl ex2) mo_X11_change q868 i1 rfl rfl hl.1 ⟨⟨(Nat.le_of_ble_eq_true rfl), (Nat.le_of_ble_eq_true rfl)⟩, (Nat.le_of_ble_eq_true rfl), (Nat.le_of_ble_eq_true rfl)⟩ rfl (Nat.le_of_ble_eq_true rfl) dL_change_7 (fun k9 hk9 ce q9 H locs f1 f2 f3 f4 f5 f6 => ?_) (fun vr hv => (inlr hv).elim)
          obtain rfl := Sum.inl.inj hk9
          refine sx_catch (k := 2) (hp := [(0, 11, 14, 13), (0, 11, 18, 15)]) (hs9 := [(0, 11, 26, 27)]) (a9 := 0) (b9 := 11) (h9 := 22) (d9 := 33) C tb (List.forall_mem_cons.mpr ⟨⟨by decide, 0, q339, by decide⟩, (List.forall_mem_cons.mpr ⟨⟨by decide, 1, q419, by decide⟩, (fun _ h => nomatch h)⟩)⟩) (by decide) (by decide) q569 f4 f5 f6 ?_
          refine lv_astore (lv' := [(6, .ref q9), (0, .ref a0), (1, .int v1), (2, .int v2), (3, .long v3), (5, .ref a5)]) C.1 C.2.1 dL_change_22 hl (by decide) rfl (fun ls hl => ?_)
          refine lv_iconst (v := 3) C.1 C.2.1 dL_change_24 (by decide) ?_
          refine W.widen (k := 2) (n := 8) (Nat.le_of_ble_eq_true rfl) (Nat.le_of_ble_eq_true rfl) ?_
          exact sx_iretK C f1 f2 f3 hr rfl dL_change_25
        · replace h := iN c9 h
          rcases Decidable.em (j6 = 3) with c10 | c10
          · replace h := ip c10 h
            subst c10
            cases h
            refine sx_xcallV (As := [.int v1, .int v2, .long v3]) (rest := [.int 0, .ref a5]) C hs (c_X11_change hfl ex2) mo_X11_change q868 i1 rfl rfl hl.1 ⟨⟨(Nat.le_of_ble_eq_true rfl), (Nat.le_of_ble_eq_true rfl)⟩, (Nat.le_of_ble_eq_true rfl), (Nat.le_of_ble_eq_true rfl)⟩ rfl (Nat.le_of_ble_eq_true rfl) dL_change_7 (fun k9 hk9 ce q9 H locs f1 f2 f3 f4 f5 f6 => ?_) (fun vr hv => (inlr hv).elim)
            obtain rfl := Sum.inl.inj hk9
            refine sx_catch (k := 3) (hp := [(0, 11, 14, 13), (0, 11, 18, 15), (0, 11, 22, 33)]) (hs9 := []) (a9 := 0) (b9 := 11) (h9 := 26) (d9 := 27) C tb (List.forall_mem_cons.mpr ⟨⟨by decide, 0, q339, by decide⟩, (List.forall_mem_cons.mpr ⟨⟨by decide, 1, q419, by decide⟩, (List.forall_mem_cons.mpr ⟨⟨by decide, 2, q569, by decide⟩, (fun _ h => nomatch h)⟩)⟩)⟩) (by decide) (by decide) q526 f4 f5 f6 ?_
            refine lv_astore (lv' := [(6, .ref q9), (0, .ref a0), (1, .int v1), (2, .int v2), (3, .long v3), (5, .ref a5)]) C.1 C.2.1 dL_change_26 hl (by decide) rfl (fun ls hl => ?_)
            refine lv_iconst (v := 4) C.1 C.2.1 dL_change_28 (by decide) ?_
            refine W.widen (k := 2) (n := 8) (Nat.le_of_ble_eq_true rfl) (Nat.le_of_ble_eq_true rfl) ?_
            exact sx_iretK C f1 f2 f3 hr rfl dL_change_29
          · replace h := iN c10 h
            cases h
  · replace h := bsr h
    refine sx_xcallV (As := [.int v1, .int v2, .long v3]) (rest := [.int 0, .ref a5]) C hs (c_X11_change hfl ex2) mo_X11_change q868 i1 rfl rfl hl.1 ⟨⟨(Nat.le_of_ble_eq_true rfl), (Nat.le_of_ble_eq_true rfl)⟩, (Nat.le_of_ble_eq_true rfl), (Nat.le_of_ble_eq_true rfl)⟩ rfl (Nat.le_of_ble_eq_true rfl) dL_change_7 (fun k9 hk9 => (inrl hk9).elim) (fun vr hv H locs hs => ?_)
    obtain rfl := Sum.inr.inj hv
    refine W.eq (g2 := F0 m 10 ls [.long x2, .int 0, .ref a5]) rfl ?_
    refine W.widen (k := 2) (n := 8) (Nat.le_of_ble_eq_true rfl) (Nat.le_of_ble_eq_true rfl) ?_
    replace h := ob h; obtain ⟨τ11, eτ11, h⟩ := h
    refine sx_last C hs eτ11 dL_change_10 (fun H locs hs => ?_)
    refine lv_goto (tgt := 30) C.1 C.2.1 dL_change_11 (by decide) ?_
    refine lv_iconst (v := 0) C.1 C.2.1 dL_change_30 (by decide) ?_
    cases h
    exact sx_iretG C hs hr rfl dL_change_31
def f_L_lost (σ : Sto) (sz : Nat) (a0 : Nat) (v1 : Int32) (v2 : Int32) (v3 : Int64) (a5 : Nat) : Option (Int32 × Sto × Nat) :=
 (isO σ a0 10).bind fun _ =>
 b3 (f_X11_lost σ sz a0 v1 v2 v3) fun u5 τ3 y4 =>
 bs u5 (fun j6 => if j6 = 0 then some (1, τ3, y4) else if j6 = 1 then some (2, τ3, y4) else if j6 = 2 then some (3, τ3, y4) else if j6 = 3 then some (4, τ3, y4) else none) fun x2 =>
 (sL τ3 a5 2 0 x2).bind fun τ11 =>
 some (0, τ11, y4)
set_option maxHeartbeats 4000000 in
set_option maxRecDepth 100000 in
theorem c_L_lost {l : Launch} (hfl : l.stackTraces = false) {g : PP} {σ : Sto} {sz : Nat} {a0 : Nat} {v1 : Int32} {v2 : Int32} {v3 : Int64} {a5 : Nat} {r9 : Int32} {σ9 : Sto} {sz9 : Nat} (h : f_L_lost σ sz a0 v1 v2 v3 a5 = some (r9, σ9, sz9)) : Met l yL_lost [Cond.codeWith yL_lost cL_lost 7 (some .int) [(0, 11, 14, 13), (0, 11, 18, 15), (0, 11, 22, 33), (0, 11, 26, 27)]] (rmk 12 4 16 244) (Pre g σ sz [.ref a0, .int v1, .int v2, .long v3, .ref a5]) (PstG g (vI r9) σ9 sz9) 4 16 (Aw g) := by
  refine va_MetW (hh := [(0, 11, 14, 13), (0, 11, 18, 15), (0, 11, 22, 33), (0, 11, 26, 27)]) (cc := cL_lost) (maxL := 7) (ret := (some .int)) (by decide) rfl ?_
  intro p e s m args below meth c s₁ B hml hv
  obtain ⟨rfl, C, hs⟩ := ctx_of B hml hv
  have C : Cx g p s m meth c cL_lost 7 "TillhouseLaw" := C
  have hr := B.returns
  have tb := vx_table (x := yL_lost) B (C.2.2.2.2.1.1 _ cw_L_lost _)
  have hl := lv_entry ([.ref a0, .int v1, .int v2, .long v3, .ref a5]) (n := 7) (Nat.le_of_ble_eq_true rfl)
  rw [lg_entry_eq]
  generalize (lg_sl ([.ref a0, .int v1, .int v2, .long v3, .ref a5]) ++ List.replicate (7 - (lg_sl ([.ref a0, .int v1, .int v2, .long v3, .ref a5])).length) Slot.unset).toArray = ls at hl ⊢
  have hl : lv_has ls 7 [(0, .ref a0), (1, .int v1), (2, .int v2), (3, .long v3), (5, .ref a5)] := hl
  unfold f_L_lost at h
  refine lv_aload C.1 C.2.1 dL_lost_0 (lv_at hl 4 rfl) ?_
  refine lv_iconst (v := 0) C.1 C.2.1 dL_lost_2 (by decide) ?_
  refine lv_aload_n C.1 C.2.1 dL_lost_3 rfl (lv_at hl 0 rfl) ?_
  refine lv_iload_n C.1 C.2.1 dL_lost_4 rfl (lv_at hl 1 rfl) ?_
  refine lv_iload_n C.1 C.2.1 dL_lost_5 rfl (lv_at hl 2 rfl) ?_
  refine lv_lload_n C.1 C.2.1 dL_lost_6 rfl (lv_at hl 3 rfl) ?_
  replace h := ob h; obtain ⟨⟨⟩, i1, h⟩ := h
  replace h := ob3 h; obtain ⟨u5, τ3, y4, ex2, h⟩ := h
  rcases u5 with j6 | x2
  · replace h := bsl h
    rcases Decidable.em (j6 = 0) with c7 | c7
    · replace h := ip c7 h
      subst c7
      cases h
      refine sx_xcallV (As := [.int v1, .int v2, .long v3]) (rest := [.int 0, .ref a5]) C hs (c_X11_lost hfl ex2) mo_X11_lost q924 i1 rfl rfl hl.1 ⟨⟨(Nat.le_of_ble_eq_true rfl), (Nat.le_of_ble_eq_true rfl)⟩, (Nat.le_of_ble_eq_true rfl), (Nat.le_of_ble_eq_true rfl)⟩ rfl (Nat.le_of_ble_eq_true rfl) dL_lost_7 (fun k9 hk9 ce q9 H locs f1 f2 f3 f4 f5 f6 => ?_) (fun vr hv => (inlr hv).elim)
      obtain rfl := Sum.inl.inj hk9
      refine sx_catch (k := 0) (hp := []) (hs9 := [(0, 11, 18, 15), (0, 11, 22, 33), (0, 11, 26, 27)]) (a9 := 0) (b9 := 11) (h9 := 14) (d9 := 13) C tb (fun _ h => nomatch h) (by decide) (by decide) q339 f4 f5 f6 ?_
      refine lv_astore (lv' := [(6, .ref q9), (0, .ref a0), (1, .int v1), (2, .int v2), (3, .long v3), (5, .ref a5)]) C.1 C.2.1 dL_lost_14 hl (by decide) rfl (fun ls hl => ?_)
      refine lv_iconst (v := 1) C.1 C.2.1 dL_lost_16 (by decide) ?_
      refine W.widen (k := 4) (n := 16) (Nat.le_of_ble_eq_true rfl) (Nat.le_of_ble_eq_true rfl) ?_
      exact sx_iretK C f1 f2 f3 hr rfl dL_lost_17
    · replace h := iN c7 h
      rcases Decidable.em (j6 = 1) with c8 | c8
      · replace h := ip c8 h
        subst c8
        cases h
        refine sx_xcallV (As := [.int v1, .int v2, .long v3]) (rest := [.int 0, .ref a5]) C hs (c_X11_lost hfl ex2) mo_X11_lost q924 i1 rfl rfl hl.1 ⟨⟨(Nat.le_of_ble_eq_true rfl), (Nat.le_of_ble_eq_true rfl)⟩, (Nat.le_of_ble_eq_true rfl), (Nat.le_of_ble_eq_true rfl)⟩ rfl (Nat.le_of_ble_eq_true rfl) dL_lost_7 (fun k9 hk9 ce q9 H locs f1 f2 f3 f4 f5 f6 => ?_) (fun vr hv => (inlr hv).elim)
        obtain rfl := Sum.inl.inj hk9
        refine sx_catch (k := 1) (hp := [(0, 11, 14, 13)]) (hs9 := [(0, 11, 22, 33), (0, 11, 26, 27)]) (a9 := 0) (b9 := 11) (h9 := 18) (d9 := 15) C tb (List.forall_mem_cons.mpr ⟨⟨by decide, 0, q339, by decide⟩, (fun _ h => nomatch h)⟩) (by decide) (by decide) q419 f4 f5 f6 ?_
        refine lv_astore (lv' := [(6, .ref q9), (0, .ref a0), (1, .int v1), (2, .int v2), (3, .long v3), (5, .ref a5)]) C.1 C.2.1 dL_lost_18 hl (by decide) rfl (fun ls hl => ?_)
        refine lv_iconst (v := 2) C.1 C.2.1 dL_lost_20 (by decide) ?_
        refine W.widen (k := 4) (n := 16) (Nat.le_of_ble_eq_true rfl) (Nat.le_of_ble_eq_true rfl) ?_
        exact sx_iretK C f1 f2 f3 hr rfl dL_lost_21
      · replace h := iN c8 h
        rcases Decidable.em (j6 = 2) with c9 | c9
        · replace h := ip c9 h
          subst c9
          cases h
          refine sx_xcallV (As := [.int v1, .int v2, .long v3]) (rest := [.int 0, .ref a5]) C hs (c_X11_lost hfl ex2) mo_X11_lost q924 i1 rfl rfl hl.1 ⟨⟨(Nat.le_of_ble_eq_true rfl), (Nat.le_of_ble_eq_true rfl)⟩, (Nat.le_of_ble_eq_true rfl), (Nat.le_of_ble_eq_true rfl)⟩ rfl (Nat.le_of_ble_eq_true rfl) dL_lost_7 (fun k9 hk9 ce q9 H locs f1 f2 f3 f4 f5 f6 => ?_) (fun vr hv => (inlr hv).elim)
          obtain rfl := Sum.inl.inj hk9
          refine sx_catch (k := 2) (hp := [(0, 11, 14, 13), (0, 11, 18, 15)]) (hs9 := [(0, 11, 26, 27)]) (a9 := 0) (b9 := 11) (h9 := 22) (d9 := 33) C tb (List.forall_mem_cons.mpr ⟨⟨by decide, 0, q339, by decide⟩, (List.forall_mem_cons.mpr ⟨⟨by decide, 1, q419, by decide⟩, (fun _ h => nomatch h)⟩)⟩) (by decide) (by decide) q569 f4 f5 f6 ?_
          refine lv_astore (lv' := [(6, .ref q9), (0, .ref a0), (1, .int v1), (2, .int v2), (3, .long v3), (5, .ref a5)]) C.1 C.2.1 dL_lost_22 hl (by decide) rfl (fun ls hl => ?_)
          refine lv_iconst (v := 3) C.1 C.2.1 dL_lost_24 (by decide) ?_
          refine W.widen (k := 4) (n := 16) (Nat.le_of_ble_eq_true rfl) (Nat.le_of_ble_eq_true rfl) ?_
          exact sx_iretK C f1 f2 f3 hr rfl dL_lost_25
        · replace h := iN c9 h
          rcases Decidable.em (j6 = 3) with c10 | c10
          · replace h := ip c10 h
            subst c10
            cases h
            refine sx_xcallV (As := [.int v1, .int v2, .long v3]) (rest := [.int 0, .ref a5]) C hs (c_X11_lost hfl ex2) mo_X11_lost q924 i1 rfl rfl hl.1 ⟨⟨(Nat.le_of_ble_eq_true rfl), (Nat.le_of_ble_eq_true rfl)⟩, (Nat.le_of_ble_eq_true rfl), (Nat.le_of_ble_eq_true rfl)⟩ rfl (Nat.le_of_ble_eq_true rfl) dL_lost_7 (fun k9 hk9 ce q9 H locs f1 f2 f3 f4 f5 f6 => ?_) (fun vr hv => (inlr hv).elim)
            obtain rfl := Sum.inl.inj hk9
            refine sx_catch (k := 3) (hp := [(0, 11, 14, 13), (0, 11, 18, 15), (0, 11, 22, 33)]) (hs9 := []) (a9 := 0) (b9 := 11) (h9 := 26) (d9 := 27) C tb (List.forall_mem_cons.mpr ⟨⟨by decide, 0, q339, by decide⟩, (List.forall_mem_cons.mpr ⟨⟨by decide, 1, q419, by decide⟩, (List.forall_mem_cons.mpr ⟨⟨by decide, 2, q569, by decide⟩, (fun _ h => nomatch h)⟩)⟩)⟩) (by decide) (by decide) q526 f4 f5 f6 ?_
            refine lv_astore (lv' := [(6, .ref q9), (0, .ref a0), (1, .int v1), (2, .int v2), (3, .long v3), (5, .ref a5)]) C.1 C.2.1 dL_lost_26 hl (by decide) rfl (fun ls hl => ?_)
            refine lv_iconst (v := 4) C.1 C.2.1 dL_lost_28 (by decide) ?_
            refine W.widen (k := 4) (n := 16) (Nat.le_of_ble_eq_true rfl) (Nat.le_of_ble_eq_true rfl) ?_
            exact sx_iretK C f1 f2 f3 hr rfl dL_lost_29
          · replace h := iN c10 h
            cases h
  · replace h := bsr h
    refine sx_xcallV (As := [.int v1, .int v2, .long v3]) (rest := [.int 0, .ref a5]) C hs (c_X11_lost hfl ex2) mo_X11_lost q924 i1 rfl rfl hl.1 ⟨⟨(Nat.le_of_ble_eq_true rfl), (Nat.le_of_ble_eq_true rfl)⟩, (Nat.le_of_ble_eq_true rfl), (Nat.le_of_ble_eq_true rfl)⟩ rfl (Nat.le_of_ble_eq_true rfl) dL_lost_7 (fun k9 hk9 => (inrl hk9).elim) (fun vr hv H locs hs => ?_)
    obtain rfl := Sum.inr.inj hv
    refine W.eq (g2 := F0 m 10 ls [.long x2, .int 0, .ref a5]) rfl ?_
    refine W.widen (k := 4) (n := 16) (Nat.le_of_ble_eq_true rfl) (Nat.le_of_ble_eq_true rfl) ?_
    replace h := ob h; obtain ⟨τ11, eτ11, h⟩ := h
    refine sx_last C hs eτ11 dL_lost_10 (fun H locs hs => ?_)
    refine lv_goto (tgt := 30) C.1 C.2.1 dL_lost_11 (by decide) ?_
    refine lv_iconst (v := 0) C.1 C.2.1 dL_lost_30 (by decide) ?_
    cases h
    exact sx_iretG C hs hr rfl dL_lost_31
def f_L_setTax (N : Nat) (σ : Sto) (sz : Nat) (a0 : Nat) (v1 : Int32) (v2 : Int32) (v3 : Int32) (a4 : Nat) : Option (Int32 × Sto × Nat) :=
 (isO σ a0 10).bind fun _ =>
 b3 (f_X11_setTax N σ sz a0 v1 v2 v3) fun u5 τ3 y4 =>
 bs u5 (fun j6 => if j6 = 0 then some (1, τ3, y4) else if j6 = 1 then some (2, τ3, y4) else none) fun x2 =>
 (sL τ3 a4 2 0 (Int32.toInt64 x2)).bind fun τ9 =>
 some (0, τ9, y4)
set_option maxHeartbeats 4000000 in
set_option maxRecDepth 100000 in
theorem c_L_setTax {l : Launch} (hfl : l.stackTraces = false) {g : PP} {N : Nat} {σ : Sto} {sz : Nat} {a0 : Nat} {v1 : Int32} {v2 : Int32} {v3 : Int32} {a4 : Nat} {r9 : Int32} {σ9 : Sto} {sz9 : Nat} (h : f_L_setTax N σ sz a0 v1 v2 v3 a4 = some (r9, σ9, sz9)) : Met l yL_setTax [Cond.codeWith yL_setTax cL_setTax 6 (some .int) [(0, 12, 15, 13), (0, 12, 19, 15)]] (rmk 8 2 2048 148) (Pre g σ sz [.ref a0, .int v1, .int v2, .int v3, .ref a4]) (PstG g (vI r9) σ9 sz9) 2 2048 (Aw g) := by
  refine va_MetW (hh := [(0, 12, 15, 13), (0, 12, 19, 15)]) (cc := cL_setTax) (maxL := 6) (ret := (some .int)) (by decide) rfl ?_
  intro p e s m args below meth c s₁ B hml hv
  obtain ⟨rfl, C, hs⟩ := ctx_of B hml hv
  have C : Cx g p s m meth c cL_setTax 6 "TillhouseLaw" := C
  have hr := B.returns
  have tb := vx_table (x := yL_setTax) B (C.2.2.2.2.1.1 _ cw_L_setTax _)
  have hl := lv_entry ([.ref a0, .int v1, .int v2, .int v3, .ref a4]) (n := 6) (Nat.le_of_ble_eq_true rfl)
  rw [lg_entry_eq]
  generalize (lg_sl ([.ref a0, .int v1, .int v2, .int v3, .ref a4]) ++ List.replicate (6 - (lg_sl ([.ref a0, .int v1, .int v2, .int v3, .ref a4])).length) Slot.unset).toArray = ls at hl ⊢
  have hl : lv_has ls 6 [(0, .ref a0), (1, .int v1), (2, .int v2), (3, .int v3), (4, .ref a4)] := hl
  unfold f_L_setTax at h
  refine lv_aload C.1 C.2.1 dL_setTax_0 (lv_at hl 4 rfl) ?_
  refine lv_iconst (v := 0) C.1 C.2.1 dL_setTax_2 (by decide) ?_
  refine lv_aload_n C.1 C.2.1 dL_setTax_3 rfl (lv_at hl 0 rfl) ?_
  refine lv_iload_n C.1 C.2.1 dL_setTax_4 rfl (lv_at hl 1 rfl) ?_
  refine lv_iload_n C.1 C.2.1 dL_setTax_5 rfl (lv_at hl 2 rfl) ?_
  refine lv_iload_n C.1 C.2.1 dL_setTax_6 rfl (lv_at hl 3 rfl) ?_
  replace h := ob h; obtain ⟨⟨⟩, i1, h⟩ := h
  replace h := ob3 h; obtain ⟨u5, τ3, y4, ex2, h⟩ := h
  rcases u5 with j6 | x2
  · replace h := bsl h
    rcases Decidable.em (j6 = 0) with c7 | c7
    · replace h := ip c7 h
      subst c7
      cases h
      refine sx_xcallV (As := [.int v1, .int v2, .int v3]) (rest := [.int 0, .ref a4]) C hs (c_X11_setTax hfl ex2) mo_X11_setTax q935 i1 rfl rfl hl.1 ⟨⟨(Nat.le_of_ble_eq_true rfl), (Nat.le_of_ble_eq_true rfl)⟩, (Nat.le_of_ble_eq_true rfl), (Nat.le_of_ble_eq_true rfl)⟩ rfl (Nat.le_of_ble_eq_true rfl) dL_setTax_7 (fun k9 hk9 ce q9 H locs f1 f2 f3 f4 f5 f6 => ?_) (fun vr hv => (inlr hv).elim)
      obtain rfl := Sum.inl.inj hk9
      refine sx_catch (k := 0) (hp := []) (hs9 := [(0, 12, 19, 15)]) (a9 := 0) (b9 := 12) (h9 := 15) (d9 := 13) C tb (fun _ h => nomatch h) (by decide) (by decide) q339 f4 f5 f6 ?_
      refine lv_astore (lv' := [(5, .ref q9), (0, .ref a0), (1, .int v1), (2, .int v2), (3, .int v3), (4, .ref a4)]) C.1 C.2.1 dL_setTax_15 hl (by decide) rfl (fun ls hl => ?_)
      refine lv_iconst (v := 1) C.1 C.2.1 dL_setTax_17 (by decide) ?_
      refine W.widen (k := 2) (n := 2048) (Nat.le_of_ble_eq_true rfl) (Nat.le_of_ble_eq_true rfl) ?_
      exact sx_iretK C f1 f2 f3 hr rfl dL_setTax_18
    · replace h := iN c7 h
      rcases Decidable.em (j6 = 1) with c8 | c8
      · replace h := ip c8 h
        subst c8
        cases h
        refine sx_xcallV (As := [.int v1, .int v2, .int v3]) (rest := [.int 0, .ref a4]) C hs (c_X11_setTax hfl ex2) mo_X11_setTax q935 i1 rfl rfl hl.1 ⟨⟨(Nat.le_of_ble_eq_true rfl), (Nat.le_of_ble_eq_true rfl)⟩, (Nat.le_of_ble_eq_true rfl), (Nat.le_of_ble_eq_true rfl)⟩ rfl (Nat.le_of_ble_eq_true rfl) dL_setTax_7 (fun k9 hk9 ce q9 H locs f1 f2 f3 f4 f5 f6 => ?_) (fun vr hv => (inlr hv).elim)
        obtain rfl := Sum.inl.inj hk9
        refine sx_catch (k := 1) (hp := [(0, 12, 15, 13)]) (hs9 := []) (a9 := 0) (b9 := 12) (h9 := 19) (d9 := 15) C tb (List.forall_mem_cons.mpr ⟨⟨by decide, 0, q339, by decide⟩, (fun _ h => nomatch h)⟩) (by decide) (by decide) q419 f4 f5 f6 ?_
        refine lv_astore (lv' := [(5, .ref q9), (0, .ref a0), (1, .int v1), (2, .int v2), (3, .int v3), (4, .ref a4)]) C.1 C.2.1 dL_setTax_19 hl (by decide) rfl (fun ls hl => ?_)
        refine lv_iconst (v := 2) C.1 C.2.1 dL_setTax_21 (by decide) ?_
        refine W.widen (k := 2) (n := 2048) (Nat.le_of_ble_eq_true rfl) (Nat.le_of_ble_eq_true rfl) ?_
        exact sx_iretK C f1 f2 f3 hr rfl dL_setTax_22
      · replace h := iN c8 h
        cases h
  · replace h := bsr h
    refine sx_xcallV (As := [.int v1, .int v2, .int v3]) (rest := [.int 0, .ref a4]) C hs (c_X11_setTax hfl ex2) mo_X11_setTax q935 i1 rfl rfl hl.1 ⟨⟨(Nat.le_of_ble_eq_true rfl), (Nat.le_of_ble_eq_true rfl)⟩, (Nat.le_of_ble_eq_true rfl), (Nat.le_of_ble_eq_true rfl)⟩ rfl (Nat.le_of_ble_eq_true rfl) dL_setTax_7 (fun k9 hk9 => (inrl hk9).elim) (fun vr hv H locs hs => ?_)
    obtain rfl := Sum.inr.inj hv
    refine W.eq (g2 := F0 m 10 ls [.int x2, .int 0, .ref a4]) rfl ?_
    refine W.widen (k := 2) (n := 2048) (Nat.le_of_ble_eq_true rfl) (Nat.le_of_ble_eq_true rfl) ?_
    refine lv_i2l (v := Int32.toInt64 x2) C.1 C.2.1 dL_setTax_10 rfl ?_
    replace h := ob h; obtain ⟨τ9, eτ9, h⟩ := h
    refine sx_last C hs eτ9 dL_setTax_11 (fun H locs hs => ?_)
    refine lv_goto (tgt := 23) C.1 C.2.1 dL_setTax_12 (by decide) ?_
    refine lv_iconst (v := 0) C.1 C.2.1 dL_setTax_23 (by decide) ?_
    cases h
    exact sx_iretG C hs hr rfl dL_setTax_24
def f_L_tax (N : Nat) (σ : Sto) (sz : Nat) (a0 : Nat) (v1 : Int32) (v2 : Int32) (a3 : Nat) : Option (Int32 × Sto × Nat) :=
 (isO σ a0 10).bind fun _ =>
 (f_X11_tax N σ a0 v1 v2).bind fun u3 =>
 bs u3 (fun j4 => if j4 = 0 then some (1, σ, sz) else if j4 = 1 then some (2, σ, sz) else none) fun x2 =>
 (sL σ a3 2 0 (Int32.toInt64 x2)).bind fun τ7 =>
 some (0, τ7, sz)
set_option maxHeartbeats 4000000 in
set_option maxRecDepth 100000 in
theorem c_L_tax {l : Launch} (hfl : l.stackTraces = false) {g : PP} {N : Nat} {σ : Sto} {sz : Nat} {a0 : Nat} {v1 : Int32} {v2 : Int32} {a3 : Nat} {r9 : Int32} {σ9 : Sto} {sz9 : Nat} (h : f_L_tax N σ sz a0 v1 v2 a3 = some (r9, σ9, sz9)) : Met l yL_tax [Cond.codeWith yL_tax cL_tax 5 (some .int) [(0, 10, 13, 13), (0, 10, 17, 15)]] (rmk 8 1 6 147) (Pre g σ sz [.ref a0, .int v1, .int v2, .ref a3]) (PstG g (vI r9) σ9 sz9) 1 6 (Aw g) := by
  refine va_MetW (hh := [(0, 10, 13, 13), (0, 10, 17, 15)]) (cc := cL_tax) (maxL := 5) (ret := (some .int)) (by decide) rfl ?_
  intro p e s m args below meth c s₁ B hml hv
  obtain ⟨rfl, C, hs⟩ := ctx_of B hml hv
  have C : Cx g p s m meth c cL_tax 5 "TillhouseLaw" := C
  have hr := B.returns
  have tb := vx_table (x := yL_tax) B (C.2.2.2.2.1.1 _ cw_L_tax _)
  have hl := lv_entry ([.ref a0, .int v1, .int v2, .ref a3]) (n := 5) (Nat.le_of_ble_eq_true rfl)
  rw [lg_entry_eq]
  generalize (lg_sl ([.ref a0, .int v1, .int v2, .ref a3]) ++ List.replicate (5 - (lg_sl ([.ref a0, .int v1, .int v2, .ref a3])).length) Slot.unset).toArray = ls at hl ⊢
  have hl : lv_has ls 5 [(0, .ref a0), (1, .int v1), (2, .int v2), (3, .ref a3)] := hl
  unfold f_L_tax at h
  refine lv_aload_n C.1 C.2.1 dL_tax_0 rfl (lv_at hl 3 rfl) ?_
  refine lv_iconst (v := 0) C.1 C.2.1 dL_tax_1 (by decide) ?_
  refine lv_aload_n C.1 C.2.1 dL_tax_2 rfl (lv_at hl 0 rfl) ?_
  refine lv_iload_n C.1 C.2.1 dL_tax_3 rfl (lv_at hl 1 rfl) ?_
  refine lv_iload_n C.1 C.2.1 dL_tax_4 rfl (lv_at hl 2 rfl) ?_
  replace h := ob h; obtain ⟨⟨⟩, i1, h⟩ := h
  replace h := ob h; obtain ⟨u3, ex2, h⟩ := h
  rcases u3 with j4 | x2
  · replace h := bsl h
    rcases Decidable.em (j4 = 0) with c5 | c5
    · replace h := ip c5 h
      subst c5
      cases h
      refine sx_xcallV (As := [.int v1, .int v2]) (rest := [.int 0, .ref a3]) C hs (c_X11_tax hfl ex2) mo_X11_tax q976 i1 rfl rfl hl.1 ⟨⟨(Nat.le_of_ble_eq_true rfl), (Nat.le_of_ble_eq_true rfl)⟩, (Nat.le_of_ble_eq_true rfl), (Nat.le_of_ble_eq_true rfl)⟩ rfl (Nat.le_of_ble_eq_true rfl) dL_tax_5 (fun k9 hk9 ce q9 H locs f1 f2 f3 f4 f5 f6 => ?_) (fun vr hv => (inlr hv).elim)
      obtain rfl := Sum.inl.inj hk9
      refine sx_catch (k := 0) (hp := []) (hs9 := [(0, 10, 17, 15)]) (a9 := 0) (b9 := 10) (h9 := 13) (d9 := 13) C tb (fun _ h => nomatch h) (by decide) (by decide) q339 f4 f5 f6 ?_
      refine lv_astore (lv' := [(4, .ref q9), (0, .ref a0), (1, .int v1), (2, .int v2), (3, .ref a3)]) C.1 C.2.1 dL_tax_13 hl (by decide) rfl (fun ls hl => ?_)
      refine lv_iconst (v := 1) C.1 C.2.1 dL_tax_15 (by decide) ?_
      refine W.widen (k := 1) (n := 6) (Nat.le_of_ble_eq_true rfl) (Nat.le_of_ble_eq_true rfl) ?_
      exact sx_iretK C f1 f2 f3 hr rfl dL_tax_16
    · replace h := iN c5 h
      rcases Decidable.em (j4 = 1) with c6 | c6
      · replace h := ip c6 h
        subst c6
        cases h
        refine sx_xcallV (As := [.int v1, .int v2]) (rest := [.int 0, .ref a3]) C hs (c_X11_tax hfl ex2) mo_X11_tax q976 i1 rfl rfl hl.1 ⟨⟨(Nat.le_of_ble_eq_true rfl), (Nat.le_of_ble_eq_true rfl)⟩, (Nat.le_of_ble_eq_true rfl), (Nat.le_of_ble_eq_true rfl)⟩ rfl (Nat.le_of_ble_eq_true rfl) dL_tax_5 (fun k9 hk9 ce q9 H locs f1 f2 f3 f4 f5 f6 => ?_) (fun vr hv => (inlr hv).elim)
        obtain rfl := Sum.inl.inj hk9
        refine sx_catch (k := 1) (hp := [(0, 10, 13, 13)]) (hs9 := []) (a9 := 0) (b9 := 10) (h9 := 17) (d9 := 15) C tb (List.forall_mem_cons.mpr ⟨⟨by decide, 0, q339, by decide⟩, (fun _ h => nomatch h)⟩) (by decide) (by decide) q419 f4 f5 f6 ?_
        refine lv_astore (lv' := [(4, .ref q9), (0, .ref a0), (1, .int v1), (2, .int v2), (3, .ref a3)]) C.1 C.2.1 dL_tax_17 hl (by decide) rfl (fun ls hl => ?_)
        refine lv_iconst (v := 2) C.1 C.2.1 dL_tax_19 (by decide) ?_
        refine W.widen (k := 1) (n := 6) (Nat.le_of_ble_eq_true rfl) (Nat.le_of_ble_eq_true rfl) ?_
        exact sx_iretK C f1 f2 f3 hr rfl dL_tax_20
      · replace h := iN c6 h
        cases h
  · replace h := bsr h
    refine sx_xcallV (As := [.int v1, .int v2]) (rest := [.int 0, .ref a3]) C hs (c_X11_tax hfl ex2) mo_X11_tax q976 i1 rfl rfl hl.1 ⟨⟨(Nat.le_of_ble_eq_true rfl), (Nat.le_of_ble_eq_true rfl)⟩, (Nat.le_of_ble_eq_true rfl), (Nat.le_of_ble_eq_true rfl)⟩ rfl (Nat.le_of_ble_eq_true rfl) dL_tax_5 (fun k9 hk9 => (inrl hk9).elim) (fun vr hv H locs hs => ?_)
    obtain rfl := Sum.inr.inj hv
    refine W.eq (g2 := F0 m 8 ls [.int x2, .int 0, .ref a3]) rfl ?_
    refine W.widen (k := 0) (n := 0) (Nat.le_of_ble_eq_true rfl) (Nat.le_of_ble_eq_true rfl) ?_
    refine lv_i2l (v := Int32.toInt64 x2) C.1 C.2.1 dL_tax_8 rfl ?_
    replace h := ob h; obtain ⟨τ7, eτ7, h⟩ := h
    refine sx_last C hs eτ7 dL_tax_9 (fun H locs hs => ?_)
    refine lv_goto (tgt := 21) C.1 C.2.1 dL_tax_10 (by decide) ?_
    refine lv_iconst (v := 0) C.1 C.2.1 dL_tax_21 (by decide) ?_
    cases h
    refine W.widen (k := 1) (n := 6) (Nat.le_of_ble_eq_true rfl) (Nat.le_of_ble_eq_true rfl) ?_
    exact sx_iretG C hs hr rfl dL_tax_22
def f_L_setDiscount (N : Nat) (σ : Sto) (sz : Nat) (a0 : Nat) (v1 : Int32) (v2 : Int32) (v3 : Int32) (a4 : Nat) : Option (Int32 × Sto × Nat) :=
 (isO σ a0 10).bind fun _ =>
 b3 (f_X11_setDiscount N σ sz a0 v1 v2 v3) fun u5 τ3 y4 =>
 bs u5 (fun j6 => if j6 = 0 then some (1, τ3, y4) else if j6 = 1 then some (2, τ3, y4) else none) fun x2 =>
 (sL τ3 a4 2 0 (Int32.toInt64 x2)).bind fun τ9 =>
 some (0, τ9, y4)
set_option maxHeartbeats 4000000 in
set_option maxRecDepth 100000 in
theorem c_L_setDiscount {l : Launch} (hfl : l.stackTraces = false) {g : PP} {N : Nat} {σ : Sto} {sz : Nat} {a0 : Nat} {v1 : Int32} {v2 : Int32} {v3 : Int32} {a4 : Nat} {r9 : Int32} {σ9 : Sto} {sz9 : Nat} (h : f_L_setDiscount N σ sz a0 v1 v2 v3 a4 = some (r9, σ9, sz9)) : Met l yL_setDiscount [Cond.codeWith yL_setDiscount cL_setDiscount 6 (some .int) [(0, 12, 15, 13), (0, 12, 19, 15)]] (rmk 8 2 2048 148) (Pre g σ sz [.ref a0, .int v1, .int v2, .int v3, .ref a4]) (PstG g (vI r9) σ9 sz9) 2 2048 (Aw g) := by
  refine va_MetW (hh := [(0, 12, 15, 13), (0, 12, 19, 15)]) (cc := cL_setDiscount) (maxL := 6) (ret := (some .int)) (by decide) rfl ?_
  intro p e s m args below meth c s₁ B hml hv
  obtain ⟨rfl, C, hs⟩ := ctx_of B hml hv
  have C : Cx g p s m meth c cL_setDiscount 6 "TillhouseLaw" := C
  have hr := B.returns
  have tb := vx_table (x := yL_setDiscount) B (C.2.2.2.2.1.1 _ cw_L_setDiscount _)
  have hl := lv_entry ([.ref a0, .int v1, .int v2, .int v3, .ref a4]) (n := 6) (Nat.le_of_ble_eq_true rfl)
  rw [lg_entry_eq]
  generalize (lg_sl ([.ref a0, .int v1, .int v2, .int v3, .ref a4]) ++ List.replicate (6 - (lg_sl ([.ref a0, .int v1, .int v2, .int v3, .ref a4])).length) Slot.unset).toArray = ls at hl ⊢
  have hl : lv_has ls 6 [(0, .ref a0), (1, .int v1), (2, .int v2), (3, .int v3), (4, .ref a4)] := hl
  unfold f_L_setDiscount at h
  refine lv_aload C.1 C.2.1 dL_setDiscount_0 (lv_at hl 4 rfl) ?_
  refine lv_iconst (v := 0) C.1 C.2.1 dL_setDiscount_2 (by decide) ?_
  refine lv_aload_n C.1 C.2.1 dL_setDiscount_3 rfl (lv_at hl 0 rfl) ?_
  refine lv_iload_n C.1 C.2.1 dL_setDiscount_4 rfl (lv_at hl 1 rfl) ?_
  refine lv_iload_n C.1 C.2.1 dL_setDiscount_5 rfl (lv_at hl 2 rfl) ?_
  refine lv_iload_n C.1 C.2.1 dL_setDiscount_6 rfl (lv_at hl 3 rfl) ?_
  replace h := ob h; obtain ⟨⟨⟩, i1, h⟩ := h
  replace h := ob3 h; obtain ⟨u5, τ3, y4, ex2, h⟩ := h
  rcases u5 with j6 | x2
  · replace h := bsl h
    rcases Decidable.em (j6 = 0) with c7 | c7
    · replace h := ip c7 h
      subst c7
      cases h
      refine sx_xcallV (As := [.int v1, .int v2, .int v3]) (rest := [.int 0, .ref a4]) C hs (c_X11_setDiscount hfl ex2) mo_X11_setDiscount q987 i1 rfl rfl hl.1 ⟨⟨(Nat.le_of_ble_eq_true rfl), (Nat.le_of_ble_eq_true rfl)⟩, (Nat.le_of_ble_eq_true rfl), (Nat.le_of_ble_eq_true rfl)⟩ rfl (Nat.le_of_ble_eq_true rfl) dL_setDiscount_7 (fun k9 hk9 ce q9 H locs f1 f2 f3 f4 f5 f6 => ?_) (fun vr hv => (inlr hv).elim)
      obtain rfl := Sum.inl.inj hk9
      refine sx_catch (k := 0) (hp := []) (hs9 := [(0, 12, 19, 15)]) (a9 := 0) (b9 := 12) (h9 := 15) (d9 := 13) C tb (fun _ h => nomatch h) (by decide) (by decide) q339 f4 f5 f6 ?_
      refine lv_astore (lv' := [(5, .ref q9), (0, .ref a0), (1, .int v1), (2, .int v2), (3, .int v3), (4, .ref a4)]) C.1 C.2.1 dL_setDiscount_15 hl (by decide) rfl (fun ls hl => ?_)
      refine lv_iconst (v := 1) C.1 C.2.1 dL_setDiscount_17 (by decide) ?_
      refine W.widen (k := 2) (n := 2048) (Nat.le_of_ble_eq_true rfl) (Nat.le_of_ble_eq_true rfl) ?_
      exact sx_iretK C f1 f2 f3 hr rfl dL_setDiscount_18
    · replace h := iN c7 h
      rcases Decidable.em (j6 = 1) with c8 | c8
      · replace h := ip c8 h
        subst c8
        cases h
        refine sx_xcallV (As := [.int v1, .int v2, .int v3]) (rest := [.int 0, .ref a4]) C hs (c_X11_setDiscount hfl ex2) mo_X11_setDiscount q987 i1 rfl rfl hl.1 ⟨⟨(Nat.le_of_ble_eq_true rfl), (Nat.le_of_ble_eq_true rfl)⟩, (Nat.le_of_ble_eq_true rfl), (Nat.le_of_ble_eq_true rfl)⟩ rfl (Nat.le_of_ble_eq_true rfl) dL_setDiscount_7 (fun k9 hk9 ce q9 H locs f1 f2 f3 f4 f5 f6 => ?_) (fun vr hv => (inlr hv).elim)
        obtain rfl := Sum.inl.inj hk9
        refine sx_catch (k := 1) (hp := [(0, 12, 15, 13)]) (hs9 := []) (a9 := 0) (b9 := 12) (h9 := 19) (d9 := 15) C tb (List.forall_mem_cons.mpr ⟨⟨by decide, 0, q339, by decide⟩, (fun _ h => nomatch h)⟩) (by decide) (by decide) q419 f4 f5 f6 ?_
        refine lv_astore (lv' := [(5, .ref q9), (0, .ref a0), (1, .int v1), (2, .int v2), (3, .int v3), (4, .ref a4)]) C.1 C.2.1 dL_setDiscount_19 hl (by decide) rfl (fun ls hl => ?_)
        refine lv_iconst (v := 2) C.1 C.2.1 dL_setDiscount_21 (by decide) ?_
        refine W.widen (k := 2) (n := 2048) (Nat.le_of_ble_eq_true rfl) (Nat.le_of_ble_eq_true rfl) ?_
        exact sx_iretK C f1 f2 f3 hr rfl dL_setDiscount_22
      · replace h := iN c8 h
        cases h
  · replace h := bsr h
    refine sx_xcallV (As := [.int v1, .int v2, .int v3]) (rest := [.int 0, .ref a4]) C hs (c_X11_setDiscount hfl ex2) mo_X11_setDiscount q987 i1 rfl rfl hl.1 ⟨⟨(Nat.le_of_ble_eq_true rfl), (Nat.le_of_ble_eq_true rfl)⟩, (Nat.le_of_ble_eq_true rfl), (Nat.le_of_ble_eq_true rfl)⟩ rfl (Nat.le_of_ble_eq_true rfl) dL_setDiscount_7 (fun k9 hk9 => (inrl hk9).elim) (fun vr hv H locs hs => ?_)
    obtain rfl := Sum.inr.inj hv
    refine W.eq (g2 := F0 m 10 ls [.int x2, .int 0, .ref a4]) rfl ?_
    refine W.widen (k := 2) (n := 2048) (Nat.le_of_ble_eq_true rfl) (Nat.le_of_ble_eq_true rfl) ?_
    refine lv_i2l (v := Int32.toInt64 x2) C.1 C.2.1 dL_setDiscount_10 rfl ?_
    replace h := ob h; obtain ⟨τ9, eτ9, h⟩ := h
    refine sx_last C hs eτ9 dL_setDiscount_11 (fun H locs hs => ?_)
    refine lv_goto (tgt := 23) C.1 C.2.1 dL_setDiscount_12 (by decide) ?_
    refine lv_iconst (v := 0) C.1 C.2.1 dL_setDiscount_23 (by decide) ?_
    cases h
    exact sx_iretG C hs hr rfl dL_setDiscount_24
def f_L_open (σ : Sto) (sz : Nat) (a0 : Nat) (v1 : Int32) (v2 : Int32) (v3 : Int32) (a4 : Nat) : Option (Int32 × Sto × Nat) :=
 (isO σ a0 10).bind fun _ =>
 b3 (f_X11_open σ sz a0 v1 v2 v3) fun u5 τ3 y4 =>
 bs u5 (fun j6 => if j6 = 0 then some (1, τ3, y4) else if j6 = 1 then some (2, τ3, y4) else if j6 = 4 then some (3, τ3, y4) else none) fun x2 =>
 (sL τ3 a4 2 0 (Int32.toInt64 x2)).bind fun τ10 =>
 some (0, τ10, y4)
set_option maxHeartbeats 4000000 in
set_option maxRecDepth 100000 in
theorem c_L_open {l : Launch} (hfl : l.stackTraces = false) {g : PP} {σ : Sto} {sz : Nat} {a0 : Nat} {v1 : Int32} {v2 : Int32} {v3 : Int32} {a4 : Nat} {r9 : Int32} {σ9 : Sto} {sz9 : Nat} (h : f_L_open σ sz a0 v1 v2 v3 a4 = some (r9, σ9, sz9)) : Met l yL_open [Cond.codeWith yL_open cL_open 6 (some .int) [(0, 12, 15, 13), (0, 12, 19, 15), (0, 12, 23, 21)]] (rmk 8 3 30 148) (Pre g σ sz [.ref a0, .int v1, .int v2, .int v3, .ref a4]) (PstG g (vI r9) σ9 sz9) 3 30 (Aw g) := by
  refine va_MetW (hh := [(0, 12, 15, 13), (0, 12, 19, 15), (0, 12, 23, 21)]) (cc := cL_open) (maxL := 6) (ret := (some .int)) (by decide) rfl ?_
  intro p e s m args below meth c s₁ B hml hv
  obtain ⟨rfl, C, hs⟩ := ctx_of B hml hv
  have C : Cx g p s m meth c cL_open 6 "TillhouseLaw" := C
  have hr := B.returns
  have tb := vx_table (x := yL_open) B (C.2.2.2.2.1.1 _ cw_L_open _)
  have hl := lv_entry ([.ref a0, .int v1, .int v2, .int v3, .ref a4]) (n := 6) (Nat.le_of_ble_eq_true rfl)
  rw [lg_entry_eq]
  generalize (lg_sl ([.ref a0, .int v1, .int v2, .int v3, .ref a4]) ++ List.replicate (6 - (lg_sl ([.ref a0, .int v1, .int v2, .int v3, .ref a4])).length) Slot.unset).toArray = ls at hl ⊢
  have hl : lv_has ls 6 [(0, .ref a0), (1, .int v1), (2, .int v2), (3, .int v3), (4, .ref a4)] := hl
  unfold f_L_open at h
  refine lv_aload C.1 C.2.1 dL_open_0 (lv_at hl 4 rfl) ?_
  refine lv_iconst (v := 0) C.1 C.2.1 dL_open_2 (by decide) ?_
  refine lv_aload_n C.1 C.2.1 dL_open_3 rfl (lv_at hl 0 rfl) ?_
  refine lv_iload_n C.1 C.2.1 dL_open_4 rfl (lv_at hl 1 rfl) ?_
  refine lv_iload_n C.1 C.2.1 dL_open_5 rfl (lv_at hl 2 rfl) ?_
  refine lv_iload_n C.1 C.2.1 dL_open_6 rfl (lv_at hl 3 rfl) ?_
  replace h := ob h; obtain ⟨⟨⟩, i1, h⟩ := h
  replace h := ob3 h; obtain ⟨u5, τ3, y4, ex2, h⟩ := h
  rcases u5 with j6 | x2
  · replace h := bsl h
    rcases Decidable.em (j6 = 0) with c7 | c7
    · replace h := ip c7 h
      subst c7
      cases h
      refine sx_xcallV (As := [.int v1, .int v2, .int v3]) (rest := [.int 0, .ref a4]) C hs (c_X11_open hfl ex2) mo_X11_open q996 i1 rfl rfl hl.1 ⟨⟨(Nat.le_of_ble_eq_true rfl), (Nat.le_of_ble_eq_true rfl)⟩, (Nat.le_of_ble_eq_true rfl), (Nat.le_of_ble_eq_true rfl)⟩ rfl (Nat.le_of_ble_eq_true rfl) dL_open_7 (fun k9 hk9 ce q9 H locs f1 f2 f3 f4 f5 f6 => ?_) (fun vr hv => (inlr hv).elim)
      obtain rfl := Sum.inl.inj hk9
      refine sx_catch (k := 0) (hp := []) (hs9 := [(0, 12, 19, 15), (0, 12, 23, 21)]) (a9 := 0) (b9 := 12) (h9 := 15) (d9 := 13) C tb (fun _ h => nomatch h) (by decide) (by decide) q339 f4 f5 f6 ?_
      refine lv_astore (lv' := [(5, .ref q9), (0, .ref a0), (1, .int v1), (2, .int v2), (3, .int v3), (4, .ref a4)]) C.1 C.2.1 dL_open_15 hl (by decide) rfl (fun ls hl => ?_)
      refine lv_iconst (v := 1) C.1 C.2.1 dL_open_17 (by decide) ?_
      refine W.widen (k := 3) (n := 30) (Nat.le_of_ble_eq_true rfl) (Nat.le_of_ble_eq_true rfl) ?_
      exact sx_iretK C f1 f2 f3 hr rfl dL_open_18
    · replace h := iN c7 h
      rcases Decidable.em (j6 = 1) with c8 | c8
      · replace h := ip c8 h
        subst c8
        cases h
        refine sx_xcallV (As := [.int v1, .int v2, .int v3]) (rest := [.int 0, .ref a4]) C hs (c_X11_open hfl ex2) mo_X11_open q996 i1 rfl rfl hl.1 ⟨⟨(Nat.le_of_ble_eq_true rfl), (Nat.le_of_ble_eq_true rfl)⟩, (Nat.le_of_ble_eq_true rfl), (Nat.le_of_ble_eq_true rfl)⟩ rfl (Nat.le_of_ble_eq_true rfl) dL_open_7 (fun k9 hk9 ce q9 H locs f1 f2 f3 f4 f5 f6 => ?_) (fun vr hv => (inlr hv).elim)
        obtain rfl := Sum.inl.inj hk9
        refine sx_catch (k := 1) (hp := [(0, 12, 15, 13)]) (hs9 := [(0, 12, 23, 21)]) (a9 := 0) (b9 := 12) (h9 := 19) (d9 := 15) C tb (List.forall_mem_cons.mpr ⟨⟨by decide, 0, q339, by decide⟩, (fun _ h => nomatch h)⟩) (by decide) (by decide) q419 f4 f5 f6 ?_
        refine lv_astore (lv' := [(5, .ref q9), (0, .ref a0), (1, .int v1), (2, .int v2), (3, .int v3), (4, .ref a4)]) C.1 C.2.1 dL_open_19 hl (by decide) rfl (fun ls hl => ?_)
        refine lv_iconst (v := 2) C.1 C.2.1 dL_open_21 (by decide) ?_
        refine W.widen (k := 3) (n := 30) (Nat.le_of_ble_eq_true rfl) (Nat.le_of_ble_eq_true rfl) ?_
        exact sx_iretK C f1 f2 f3 hr rfl dL_open_22
      · replace h := iN c8 h
        rcases Decidable.em (j6 = 4) with c9 | c9
        · replace h := ip c9 h
          subst c9
          cases h
          refine sx_xcallV (As := [.int v1, .int v2, .int v3]) (rest := [.int 0, .ref a4]) C hs (c_X11_open hfl ex2) mo_X11_open q996 i1 rfl rfl hl.1 ⟨⟨(Nat.le_of_ble_eq_true rfl), (Nat.le_of_ble_eq_true rfl)⟩, (Nat.le_of_ble_eq_true rfl), (Nat.le_of_ble_eq_true rfl)⟩ rfl (Nat.le_of_ble_eq_true rfl) dL_open_7 (fun k9 hk9 ce q9 H locs f1 f2 f3 f4 f5 f6 => ?_) (fun vr hv => (inlr hv).elim)
          obtain rfl := Sum.inl.inj hk9
          refine sx_catch (k := 4) (hp := [(0, 12, 15, 13), (0, 12, 19, 15)]) (hs9 := []) (a9 := 0) (b9 := 12) (h9 := 23) (d9 := 21) C tb (List.forall_mem_cons.mpr ⟨⟨by decide, 0, q339, by decide⟩, (List.forall_mem_cons.mpr ⟨⟨by decide, 1, q419, by decide⟩, (fun _ h => nomatch h)⟩)⟩) (by decide) (by decide) q494 f4 f5 f6 ?_
          refine lv_astore (lv' := [(5, .ref q9), (0, .ref a0), (1, .int v1), (2, .int v2), (3, .int v3), (4, .ref a4)]) C.1 C.2.1 dL_open_23 hl (by decide) rfl (fun ls hl => ?_)
          refine lv_iconst (v := 3) C.1 C.2.1 dL_open_25 (by decide) ?_
          refine W.widen (k := 3) (n := 30) (Nat.le_of_ble_eq_true rfl) (Nat.le_of_ble_eq_true rfl) ?_
          exact sx_iretK C f1 f2 f3 hr rfl dL_open_26
        · replace h := iN c9 h
          cases h
  · replace h := bsr h
    refine sx_xcallV (As := [.int v1, .int v2, .int v3]) (rest := [.int 0, .ref a4]) C hs (c_X11_open hfl ex2) mo_X11_open q996 i1 rfl rfl hl.1 ⟨⟨(Nat.le_of_ble_eq_true rfl), (Nat.le_of_ble_eq_true rfl)⟩, (Nat.le_of_ble_eq_true rfl), (Nat.le_of_ble_eq_true rfl)⟩ rfl (Nat.le_of_ble_eq_true rfl) dL_open_7 (fun k9 hk9 => (inrl hk9).elim) (fun vr hv H locs hs => ?_)
    obtain rfl := Sum.inr.inj hv
    refine W.eq (g2 := F0 m 10 ls [.int x2, .int 0, .ref a4]) rfl ?_
    refine W.widen (k := 3) (n := 30) (Nat.le_of_ble_eq_true rfl) (Nat.le_of_ble_eq_true rfl) ?_
    refine lv_i2l (v := Int32.toInt64 x2) C.1 C.2.1 dL_open_10 rfl ?_
    replace h := ob h; obtain ⟨τ10, eτ10, h⟩ := h
    refine sx_last C hs eτ10 dL_open_11 (fun H locs hs => ?_)
    refine lv_goto (tgt := 27) C.1 C.2.1 dL_open_12 (by decide) ?_
    refine lv_iconst (v := 0) C.1 C.2.1 dL_open_27 (by decide) ?_
    cases h
    exact sx_iretG C hs hr rfl dL_open_28
def f_L_line (N : Nat) (σ : Sto) (sz : Nat) (a0 : Nat) (v1 : Int32) (v2 : Int32) (v3 : Int32) (v4 : Int32) (a5 : Nat) : Option (Int32 × Sto × Nat) :=
 (isO σ a0 10).bind fun _ =>
 b2 (f_X11_line N σ a0 v1 v2 v3 v4) fun u4 τ3 =>
 bs u4 (fun j5 => if j5 = 0 then some (1, τ3, sz) else if j5 = 1 then some (2, τ3, sz) else if j5 = 5 then some (3, τ3, sz) else if j5 = 4 then some (4, τ3, sz) else none) fun x2 =>
 (sL τ3 a5 2 0 (Int32.toInt64 x2)).bind fun τ10 =>
 some (0, τ10, sz)
set_option maxHeartbeats 4000000 in
set_option maxRecDepth 100000 in
theorem c_L_line {l : Launch} (hfl : l.stackTraces = false) {g : PP} {N : Nat} {σ : Sto} {sz : Nat} {a0 : Nat} {v1 : Int32} {v2 : Int32} {v3 : Int32} {v4 : Int32} {a5 : Nat} {r9 : Int32} {σ9 : Sto} {sz9 : Nat} (h : f_L_line N σ sz a0 v1 v2 v3 v4 a5 = some (r9, σ9, sz9)) : Met l yL_line [Cond.codeWith yL_line cL_line 7 (some .int) [(0, 14, 17, 13), (0, 14, 21, 15), (0, 14, 25, 105), (0, 14, 29, 21)]] (rmk 8 1 6 153) (Pre g σ sz [.ref a0, .int v1, .int v2, .int v3, .int v4, .ref a5]) (PstG g (vI r9) σ9 sz9) 1 6 (Aw g) := by
  refine va_MetW (hh := [(0, 14, 17, 13), (0, 14, 21, 15), (0, 14, 25, 105), (0, 14, 29, 21)]) (cc := cL_line) (maxL := 7) (ret := (some .int)) (by decide) rfl ?_
  intro p e s m args below meth c s₁ B hml hv
  obtain ⟨rfl, C, hs⟩ := ctx_of B hml hv
  have C : Cx g p s m meth c cL_line 7 "TillhouseLaw" := C
  have hr := B.returns
  have tb := vx_table (x := yL_line) B (C.2.2.2.2.1.1 _ cw_L_line _)
  have hl := lv_entry ([.ref a0, .int v1, .int v2, .int v3, .int v4, .ref a5]) (n := 7) (Nat.le_of_ble_eq_true rfl)
  rw [lg_entry_eq]
  generalize (lg_sl ([.ref a0, .int v1, .int v2, .int v3, .int v4, .ref a5]) ++ List.replicate (7 - (lg_sl ([.ref a0, .int v1, .int v2, .int v3, .int v4, .ref a5])).length) Slot.unset).toArray = ls at hl ⊢
  have hl : lv_has ls 7 [(0, .ref a0), (1, .int v1), (2, .int v2), (3, .int v3), (4, .int v4), (5, .ref a5)] := hl
  unfold f_L_line at h
  refine lv_aload C.1 C.2.1 dL_line_0 (lv_at hl 5 rfl) ?_
  refine lv_iconst (v := 0) C.1 C.2.1 dL_line_2 (by decide) ?_
  refine lv_aload_n C.1 C.2.1 dL_line_3 rfl (lv_at hl 0 rfl) ?_
  refine lv_iload_n C.1 C.2.1 dL_line_4 rfl (lv_at hl 1 rfl) ?_
  refine lv_iload_n C.1 C.2.1 dL_line_5 rfl (lv_at hl 2 rfl) ?_
  refine lv_iload_n C.1 C.2.1 dL_line_6 rfl (lv_at hl 3 rfl) ?_
  refine lv_iload C.1 C.2.1 dL_line_7 (lv_at hl 4 rfl) ?_
  replace h := ob h; obtain ⟨⟨⟩, i1, h⟩ := h
  replace h := ob2 h; obtain ⟨u4, τ3, ex2, h⟩ := h
  rcases u4 with j5 | x2
  · replace h := bsl h
    rcases Decidable.em (j5 = 0) with c6 | c6
    · replace h := ip c6 h
      subst c6
      cases h
      refine sx_xcallV (As := [.int v1, .int v2, .int v3, .int v4]) (rest := [.int 0, .ref a5]) C hs (c_X11_line hfl ex2) mo_X11_line q1032 i1 rfl rfl hl.1 ⟨⟨(Nat.le_of_ble_eq_true rfl), (Nat.le_of_ble_eq_true rfl)⟩, (Nat.le_of_ble_eq_true rfl), (Nat.le_of_ble_eq_true rfl)⟩ rfl (Nat.le_of_ble_eq_true rfl) dL_line_9 (fun k9 hk9 ce q9 H locs f1 f2 f3 f4 f5 f6 => ?_) (fun vr hv => (inlr hv).elim)
      obtain rfl := Sum.inl.inj hk9
      refine sx_catch (k := 0) (hp := []) (hs9 := [(0, 14, 21, 15), (0, 14, 25, 105), (0, 14, 29, 21)]) (a9 := 0) (b9 := 14) (h9 := 17) (d9 := 13) C tb (fun _ h => nomatch h) (by decide) (by decide) q339 f4 f5 f6 ?_
      refine lv_astore (lv' := [(6, .ref q9), (0, .ref a0), (1, .int v1), (2, .int v2), (3, .int v3), (4, .int v4), (5, .ref a5)]) C.1 C.2.1 dL_line_17 hl (by decide) rfl (fun ls hl => ?_)
      refine lv_iconst (v := 1) C.1 C.2.1 dL_line_19 (by decide) ?_
      refine W.widen (k := 1) (n := 6) (Nat.le_of_ble_eq_true rfl) (Nat.le_of_ble_eq_true rfl) ?_
      exact sx_iretK C f1 f2 f3 hr rfl dL_line_20
    · replace h := iN c6 h
      rcases Decidable.em (j5 = 1) with c7 | c7
      · replace h := ip c7 h
        subst c7
        cases h
        refine sx_xcallV (As := [.int v1, .int v2, .int v3, .int v4]) (rest := [.int 0, .ref a5]) C hs (c_X11_line hfl ex2) mo_X11_line q1032 i1 rfl rfl hl.1 ⟨⟨(Nat.le_of_ble_eq_true rfl), (Nat.le_of_ble_eq_true rfl)⟩, (Nat.le_of_ble_eq_true rfl), (Nat.le_of_ble_eq_true rfl)⟩ rfl (Nat.le_of_ble_eq_true rfl) dL_line_9 (fun k9 hk9 ce q9 H locs f1 f2 f3 f4 f5 f6 => ?_) (fun vr hv => (inlr hv).elim)
        obtain rfl := Sum.inl.inj hk9
        refine sx_catch (k := 1) (hp := [(0, 14, 17, 13)]) (hs9 := [(0, 14, 25, 105), (0, 14, 29, 21)]) (a9 := 0) (b9 := 14) (h9 := 21) (d9 := 15) C tb (List.forall_mem_cons.mpr ⟨⟨by decide, 0, q339, by decide⟩, (fun _ h => nomatch h)⟩) (by decide) (by decide) q419 f4 f5 f6 ?_
        refine lv_astore (lv' := [(6, .ref q9), (0, .ref a0), (1, .int v1), (2, .int v2), (3, .int v3), (4, .int v4), (5, .ref a5)]) C.1 C.2.1 dL_line_21 hl (by decide) rfl (fun ls hl => ?_)
        refine lv_iconst (v := 2) C.1 C.2.1 dL_line_23 (by decide) ?_
        refine W.widen (k := 1) (n := 6) (Nat.le_of_ble_eq_true rfl) (Nat.le_of_ble_eq_true rfl) ?_
        exact sx_iretK C f1 f2 f3 hr rfl dL_line_24
      · replace h := iN c7 h
        rcases Decidable.em (j5 = 5) with c8 | c8
        · replace h := ip c8 h
          subst c8
          cases h
          refine sx_xcallV (As := [.int v1, .int v2, .int v3, .int v4]) (rest := [.int 0, .ref a5]) C hs (c_X11_line hfl ex2) mo_X11_line q1032 i1 rfl rfl hl.1 ⟨⟨(Nat.le_of_ble_eq_true rfl), (Nat.le_of_ble_eq_true rfl)⟩, (Nat.le_of_ble_eq_true rfl), (Nat.le_of_ble_eq_true rfl)⟩ rfl (Nat.le_of_ble_eq_true rfl) dL_line_9 (fun k9 hk9 ce q9 H locs f1 f2 f3 f4 f5 f6 => ?_) (fun vr hv => (inlr hv).elim)
          obtain rfl := Sum.inl.inj hk9
          refine sx_catch (k := 5) (hp := [(0, 14, 17, 13), (0, 14, 21, 15)]) (hs9 := [(0, 14, 29, 21)]) (a9 := 0) (b9 := 14) (h9 := 25) (d9 := 105) C tb (List.forall_mem_cons.mpr ⟨⟨by decide, 0, q339, by decide⟩, (List.forall_mem_cons.mpr ⟨⟨by decide, 1, q419, by decide⟩, (fun _ h => nomatch h)⟩)⟩) (by decide) (by decide) q1031 f4 f5 f6 ?_
          refine lv_astore (lv' := [(6, .ref q9), (0, .ref a0), (1, .int v1), (2, .int v2), (3, .int v3), (4, .int v4), (5, .ref a5)]) C.1 C.2.1 dL_line_25 hl (by decide) rfl (fun ls hl => ?_)
          refine lv_iconst (v := 3) C.1 C.2.1 dL_line_27 (by decide) ?_
          refine W.widen (k := 1) (n := 6) (Nat.le_of_ble_eq_true rfl) (Nat.le_of_ble_eq_true rfl) ?_
          exact sx_iretK C f1 f2 f3 hr rfl dL_line_28
        · replace h := iN c8 h
          rcases Decidable.em (j5 = 4) with c9 | c9
          · replace h := ip c9 h
            subst c9
            cases h
            refine sx_xcallV (As := [.int v1, .int v2, .int v3, .int v4]) (rest := [.int 0, .ref a5]) C hs (c_X11_line hfl ex2) mo_X11_line q1032 i1 rfl rfl hl.1 ⟨⟨(Nat.le_of_ble_eq_true rfl), (Nat.le_of_ble_eq_true rfl)⟩, (Nat.le_of_ble_eq_true rfl), (Nat.le_of_ble_eq_true rfl)⟩ rfl (Nat.le_of_ble_eq_true rfl) dL_line_9 (fun k9 hk9 ce q9 H locs f1 f2 f3 f4 f5 f6 => ?_) (fun vr hv => (inlr hv).elim)
            obtain rfl := Sum.inl.inj hk9
            refine sx_catch (k := 4) (hp := [(0, 14, 17, 13), (0, 14, 21, 15), (0, 14, 25, 105)]) (hs9 := []) (a9 := 0) (b9 := 14) (h9 := 29) (d9 := 21) C tb (List.forall_mem_cons.mpr ⟨⟨by decide, 0, q339, by decide⟩, (List.forall_mem_cons.mpr ⟨⟨by decide, 1, q419, by decide⟩, (List.forall_mem_cons.mpr ⟨⟨by decide, 5, q1031, by decide⟩, (fun _ h => nomatch h)⟩)⟩)⟩) (by decide) (by decide) q494 f4 f5 f6 ?_
            refine lv_astore (lv' := [(6, .ref q9), (0, .ref a0), (1, .int v1), (2, .int v2), (3, .int v3), (4, .int v4), (5, .ref a5)]) C.1 C.2.1 dL_line_29 hl (by decide) rfl (fun ls hl => ?_)
            refine lv_iconst (v := 4) C.1 C.2.1 dL_line_31 (by decide) ?_
            refine W.widen (k := 1) (n := 6) (Nat.le_of_ble_eq_true rfl) (Nat.le_of_ble_eq_true rfl) ?_
            exact sx_iretK C f1 f2 f3 hr rfl dL_line_32
          · replace h := iN c9 h
            cases h
  · replace h := bsr h
    refine sx_xcallV (As := [.int v1, .int v2, .int v3, .int v4]) (rest := [.int 0, .ref a5]) C hs (c_X11_line hfl ex2) mo_X11_line q1032 i1 rfl rfl hl.1 ⟨⟨(Nat.le_of_ble_eq_true rfl), (Nat.le_of_ble_eq_true rfl)⟩, (Nat.le_of_ble_eq_true rfl), (Nat.le_of_ble_eq_true rfl)⟩ rfl (Nat.le_of_ble_eq_true rfl) dL_line_9 (fun k9 hk9 => (inrl hk9).elim) (fun vr hv H locs hs => ?_)
    obtain rfl := Sum.inr.inj hv
    refine W.eq (g2 := F0 m 12 ls [.int x2, .int 0, .ref a5]) rfl ?_
    refine W.widen (k := 0) (n := 0) (Nat.le_of_ble_eq_true rfl) (Nat.le_of_ble_eq_true rfl) ?_
    refine lv_i2l (v := Int32.toInt64 x2) C.1 C.2.1 dL_line_12 rfl ?_
    replace h := ob h; obtain ⟨τ10, eτ10, h⟩ := h
    refine sx_last C hs eτ10 dL_line_13 (fun H locs hs => ?_)
    refine lv_goto (tgt := 33) C.1 C.2.1 dL_line_14 (by decide) ?_
    refine lv_iconst (v := 0) C.1 C.2.1 dL_line_33 (by decide) ?_
    cases h
    refine W.widen (k := 1) (n := 6) (Nat.le_of_ble_eq_true rfl) (Nat.le_of_ble_eq_true rfl) ?_
    exact sx_iretG C hs hr rfl dL_line_34
def f_L_netOfLine (σ : Sto) (sz : Nat) (a0 : Nat) (v1 : Int32) (v2 : Int32) (a3 : Nat) : Option (Int32 × Sto × Nat) :=
 (isO σ a0 10).bind fun _ =>
 (f_X11_netOfLine σ a0 v1 v2).bind fun u3 =>
 bs u3 (fun j4 => if j4 = 0 then some (1, σ, sz) else if j4 = 3 then some (2, σ, sz) else none) fun x2 =>
 (sL σ a3 2 0 x2).bind fun τ7 =>
 some (0, τ7, sz)
set_option maxHeartbeats 4000000 in
set_option maxRecDepth 100000 in
theorem c_L_netOfLine {l : Launch} (hfl : l.stackTraces = false) {g : PP} {σ : Sto} {sz : Nat} {a0 : Nat} {v1 : Int32} {v2 : Int32} {a3 : Nat} {r9 : Int32} {σ9 : Sto} {sz9 : Nat} (h : f_L_netOfLine σ sz a0 v1 v2 a3 = some (r9, σ9, sz9)) : Met l yL_netOfLine [Cond.codeWith yL_netOfLine cL_netOfLine 5 (some .int) [(0, 9, 12, 13), (0, 9, 16, 27)]] (rmk 12 1 6 246) (Pre g σ sz [.ref a0, .int v1, .int v2, .ref a3]) (PstG g (vI r9) σ9 sz9) 1 6 (Aw g) := by
  refine va_MetW (hh := [(0, 9, 12, 13), (0, 9, 16, 27)]) (cc := cL_netOfLine) (maxL := 5) (ret := (some .int)) (by decide) rfl ?_
  intro p e s m args below meth c s₁ B hml hv
  obtain ⟨rfl, C, hs⟩ := ctx_of B hml hv
  have C : Cx g p s m meth c cL_netOfLine 5 "TillhouseLaw" := C
  have hr := B.returns
  have tb := vx_table (x := yL_netOfLine) B (C.2.2.2.2.1.1 _ cw_L_netOfLine _)
  have hl := lv_entry ([.ref a0, .int v1, .int v2, .ref a3]) (n := 5) (Nat.le_of_ble_eq_true rfl)
  rw [lg_entry_eq]
  generalize (lg_sl ([.ref a0, .int v1, .int v2, .ref a3]) ++ List.replicate (5 - (lg_sl ([.ref a0, .int v1, .int v2, .ref a3])).length) Slot.unset).toArray = ls at hl ⊢
  have hl : lv_has ls 5 [(0, .ref a0), (1, .int v1), (2, .int v2), (3, .ref a3)] := hl
  unfold f_L_netOfLine at h
  refine lv_aload_n C.1 C.2.1 dL_netOfLine_0 rfl (lv_at hl 3 rfl) ?_
  refine lv_iconst (v := 0) C.1 C.2.1 dL_netOfLine_1 (by decide) ?_
  refine lv_aload_n C.1 C.2.1 dL_netOfLine_2 rfl (lv_at hl 0 rfl) ?_
  refine lv_iload_n C.1 C.2.1 dL_netOfLine_3 rfl (lv_at hl 1 rfl) ?_
  refine lv_iload_n C.1 C.2.1 dL_netOfLine_4 rfl (lv_at hl 2 rfl) ?_
  replace h := ob h; obtain ⟨⟨⟩, i1, h⟩ := h
  replace h := ob h; obtain ⟨u3, ex2, h⟩ := h
  rcases u3 with j4 | x2
  · replace h := bsl h
    rcases Decidable.em (j4 = 0) with c5 | c5
    · replace h := ip c5 h
      subst c5
      cases h
      refine sx_xcallV (As := [.int v1, .int v2]) (rest := [.int 0, .ref a3]) C hs (c_X11_netOfLine hfl ex2) mo_X11_netOfLine q1074 i1 rfl rfl hl.1 ⟨⟨(Nat.le_of_ble_eq_true rfl), (Nat.le_of_ble_eq_true rfl)⟩, (Nat.le_of_ble_eq_true rfl), (Nat.le_of_ble_eq_true rfl)⟩ rfl (Nat.le_of_ble_eq_true rfl) dL_netOfLine_5 (fun k9 hk9 ce q9 H locs f1 f2 f3 f4 f5 f6 => ?_) (fun vr hv => (inlr hv).elim)
      obtain rfl := Sum.inl.inj hk9
      refine sx_catch (k := 0) (hp := []) (hs9 := [(0, 9, 16, 27)]) (a9 := 0) (b9 := 9) (h9 := 12) (d9 := 13) C tb (fun _ h => nomatch h) (by decide) (by decide) q339 f4 f5 f6 ?_
      refine lv_astore (lv' := [(4, .ref q9), (0, .ref a0), (1, .int v1), (2, .int v2), (3, .ref a3)]) C.1 C.2.1 dL_netOfLine_12 hl (by decide) rfl (fun ls hl => ?_)
      refine lv_iconst (v := 1) C.1 C.2.1 dL_netOfLine_14 (by decide) ?_
      refine W.widen (k := 1) (n := 6) (Nat.le_of_ble_eq_true rfl) (Nat.le_of_ble_eq_true rfl) ?_
      exact sx_iretK C f1 f2 f3 hr rfl dL_netOfLine_15
    · replace h := iN c5 h
      rcases Decidable.em (j4 = 3) with c6 | c6
      · replace h := ip c6 h
        subst c6
        cases h
        refine sx_xcallV (As := [.int v1, .int v2]) (rest := [.int 0, .ref a3]) C hs (c_X11_netOfLine hfl ex2) mo_X11_netOfLine q1074 i1 rfl rfl hl.1 ⟨⟨(Nat.le_of_ble_eq_true rfl), (Nat.le_of_ble_eq_true rfl)⟩, (Nat.le_of_ble_eq_true rfl), (Nat.le_of_ble_eq_true rfl)⟩ rfl (Nat.le_of_ble_eq_true rfl) dL_netOfLine_5 (fun k9 hk9 ce q9 H locs f1 f2 f3 f4 f5 f6 => ?_) (fun vr hv => (inlr hv).elim)
        obtain rfl := Sum.inl.inj hk9
        refine sx_catch (k := 3) (hp := [(0, 9, 12, 13)]) (hs9 := []) (a9 := 0) (b9 := 9) (h9 := 16) (d9 := 27) C tb (List.forall_mem_cons.mpr ⟨⟨by decide, 0, q339, by decide⟩, (fun _ h => nomatch h)⟩) (by decide) (by decide) q526 f4 f5 f6 ?_
        refine lv_astore (lv' := [(4, .ref q9), (0, .ref a0), (1, .int v1), (2, .int v2), (3, .ref a3)]) C.1 C.2.1 dL_netOfLine_16 hl (by decide) rfl (fun ls hl => ?_)
        refine lv_iconst (v := 2) C.1 C.2.1 dL_netOfLine_18 (by decide) ?_
        refine W.widen (k := 1) (n := 6) (Nat.le_of_ble_eq_true rfl) (Nat.le_of_ble_eq_true rfl) ?_
        exact sx_iretK C f1 f2 f3 hr rfl dL_netOfLine_19
      · replace h := iN c6 h
        cases h
  · replace h := bsr h
    refine sx_xcallV (As := [.int v1, .int v2]) (rest := [.int 0, .ref a3]) C hs (c_X11_netOfLine hfl ex2) mo_X11_netOfLine q1074 i1 rfl rfl hl.1 ⟨⟨(Nat.le_of_ble_eq_true rfl), (Nat.le_of_ble_eq_true rfl)⟩, (Nat.le_of_ble_eq_true rfl), (Nat.le_of_ble_eq_true rfl)⟩ rfl (Nat.le_of_ble_eq_true rfl) dL_netOfLine_5 (fun k9 hk9 => (inrl hk9).elim) (fun vr hv H locs hs => ?_)
    obtain rfl := Sum.inr.inj hv
    refine W.eq (g2 := F0 m 8 ls [.long x2, .int 0, .ref a3]) rfl ?_
    refine W.widen (k := 0) (n := 0) (Nat.le_of_ble_eq_true rfl) (Nat.le_of_ble_eq_true rfl) ?_
    replace h := ob h; obtain ⟨τ7, eτ7, h⟩ := h
    refine sx_last C hs eτ7 dL_netOfLine_8 (fun H locs hs => ?_)
    refine lv_goto (tgt := 20) C.1 C.2.1 dL_netOfLine_9 (by decide) ?_
    refine lv_iconst (v := 0) C.1 C.2.1 dL_netOfLine_20 (by decide) ?_
    cases h
    refine W.widen (k := 1) (n := 6) (Nat.le_of_ble_eq_true rfl) (Nat.le_of_ble_eq_true rfl) ?_
    exact sx_iretG C hs hr rfl dL_netOfLine_21
def f_L_net (N : Nat) (σ : Sto) (sz : Nat) (a0 : Nat) (v1 : Int32) (a2 : Nat) : Option (Int32 × Sto × Nat) :=
 (isO σ a0 10).bind fun _ =>
 (f_X11_net N σ a0 v1).bind fun u3 =>
 bs u3 (fun j4 => if j4 = 0 then some (1, σ, sz) else if j4 = 3 then some (2, σ, sz) else none) fun x2 =>
 (sL σ a2 2 0 x2).bind fun τ7 =>
 some (0, τ7, sz)
set_option maxHeartbeats 4000000 in
set_option maxRecDepth 100000 in
theorem c_L_net {l : Launch} (hfl : l.stackTraces = false) {g : PP} {N : Nat} {σ : Sto} {sz : Nat} {a0 : Nat} {v1 : Int32} {a2 : Nat} {r9 : Int32} {σ9 : Sto} {sz9 : Nat} (h : f_L_net N σ sz a0 v1 a2 = some (r9, σ9, sz9)) : Met l yL_net [Cond.codeWith yL_net cL_net 4 (some .int) [(0, 8, 11, 13), (0, 8, 14, 27)]] (rmk 13 1 6 269) (Pre g σ sz [.ref a0, .int v1, .ref a2]) (PstG g (vI r9) σ9 sz9) 1 6 (Aw g) := by
  refine va_MetW (hh := [(0, 8, 11, 13), (0, 8, 14, 27)]) (cc := cL_net) (maxL := 4) (ret := (some .int)) (by decide) rfl ?_
  intro p e s m args below meth c s₁ B hml hv
  obtain ⟨rfl, C, hs⟩ := ctx_of B hml hv
  have C : Cx g p s m meth c cL_net 4 "TillhouseLaw" := C
  have hr := B.returns
  have tb := vx_table (x := yL_net) B (C.2.2.2.2.1.1 _ cw_L_net _)
  have hl := lv_entry ([.ref a0, .int v1, .ref a2]) (n := 4) (Nat.le_of_ble_eq_true rfl)
  rw [lg_entry_eq]
  generalize (lg_sl ([.ref a0, .int v1, .ref a2]) ++ List.replicate (4 - (lg_sl ([.ref a0, .int v1, .ref a2])).length) Slot.unset).toArray = ls at hl ⊢
  have hl : lv_has ls 4 [(0, .ref a0), (1, .int v1), (2, .ref a2)] := hl
  unfold f_L_net at h
  refine lv_aload_n C.1 C.2.1 dL_net_0 rfl (lv_at hl 2 rfl) ?_
  refine lv_iconst (v := 0) C.1 C.2.1 dL_net_1 (by decide) ?_
  refine lv_aload_n C.1 C.2.1 dL_net_2 rfl (lv_at hl 0 rfl) ?_
  refine lv_iload_n C.1 C.2.1 dL_net_3 rfl (lv_at hl 1 rfl) ?_
  replace h := ob h; obtain ⟨⟨⟩, i1, h⟩ := h
  replace h := ob h; obtain ⟨u3, ex2, h⟩ := h
  rcases u3 with j4 | x2
  · replace h := bsl h
    rcases Decidable.em (j4 = 0) with c5 | c5
    · replace h := ip c5 h
      subst c5
      cases h
      refine sx_xcallV (As := [.int v1]) (rest := [.int 0, .ref a2]) C hs (c_X11_net hfl ex2) mo_X11_net q1100 i1 rfl rfl hl.1 ⟨⟨(Nat.le_of_ble_eq_true rfl), (Nat.le_of_ble_eq_true rfl)⟩, (Nat.le_of_ble_eq_true rfl), (Nat.le_of_ble_eq_true rfl)⟩ rfl (Nat.le_of_ble_eq_true rfl) dL_net_4 (fun k9 hk9 ce q9 H locs f1 f2 f3 f4 f5 f6 => ?_) (fun vr hv => (inlr hv).elim)
      obtain rfl := Sum.inl.inj hk9
      refine sx_catch (k := 0) (hp := []) (hs9 := [(0, 8, 14, 27)]) (a9 := 0) (b9 := 8) (h9 := 11) (d9 := 13) C tb (fun _ h => nomatch h) (by decide) (by decide) q339 f4 f5 f6 ?_
      refine lv_astore_n (lv' := [(3, .ref q9), (0, .ref a0), (1, .int v1), (2, .ref a2)]) C.1 C.2.1 dL_net_11 rfl hl (by decide) rfl (fun ls hl => ?_)
      refine lv_iconst (v := 1) C.1 C.2.1 dL_net_12 (by decide) ?_
      refine W.widen (k := 1) (n := 6) (Nat.le_of_ble_eq_true rfl) (Nat.le_of_ble_eq_true rfl) ?_
      exact sx_iretK C f1 f2 f3 hr rfl dL_net_13
    · replace h := iN c5 h
      rcases Decidable.em (j4 = 3) with c6 | c6
      · replace h := ip c6 h
        subst c6
        cases h
        refine sx_xcallV (As := [.int v1]) (rest := [.int 0, .ref a2]) C hs (c_X11_net hfl ex2) mo_X11_net q1100 i1 rfl rfl hl.1 ⟨⟨(Nat.le_of_ble_eq_true rfl), (Nat.le_of_ble_eq_true rfl)⟩, (Nat.le_of_ble_eq_true rfl), (Nat.le_of_ble_eq_true rfl)⟩ rfl (Nat.le_of_ble_eq_true rfl) dL_net_4 (fun k9 hk9 ce q9 H locs f1 f2 f3 f4 f5 f6 => ?_) (fun vr hv => (inlr hv).elim)
        obtain rfl := Sum.inl.inj hk9
        refine sx_catch (k := 3) (hp := [(0, 8, 11, 13)]) (hs9 := []) (a9 := 0) (b9 := 8) (h9 := 14) (d9 := 27) C tb (List.forall_mem_cons.mpr ⟨⟨by decide, 0, q339, by decide⟩, (fun _ h => nomatch h)⟩) (by decide) (by decide) q526 f4 f5 f6 ?_
        refine lv_astore_n (lv' := [(3, .ref q9), (0, .ref a0), (1, .int v1), (2, .ref a2)]) C.1 C.2.1 dL_net_14 rfl hl (by decide) rfl (fun ls hl => ?_)
        refine lv_iconst (v := 2) C.1 C.2.1 dL_net_15 (by decide) ?_
        refine W.widen (k := 1) (n := 6) (Nat.le_of_ble_eq_true rfl) (Nat.le_of_ble_eq_true rfl) ?_
        exact sx_iretK C f1 f2 f3 hr rfl dL_net_16
      · replace h := iN c6 h
        cases h
  · replace h := bsr h
    refine sx_xcallV (As := [.int v1]) (rest := [.int 0, .ref a2]) C hs (c_X11_net hfl ex2) mo_X11_net q1100 i1 rfl rfl hl.1 ⟨⟨(Nat.le_of_ble_eq_true rfl), (Nat.le_of_ble_eq_true rfl)⟩, (Nat.le_of_ble_eq_true rfl), (Nat.le_of_ble_eq_true rfl)⟩ rfl (Nat.le_of_ble_eq_true rfl) dL_net_4 (fun k9 hk9 => (inrl hk9).elim) (fun vr hv H locs hs => ?_)
    obtain rfl := Sum.inr.inj hv
    refine W.eq (g2 := F0 m 7 ls [.long x2, .int 0, .ref a2]) rfl ?_
    refine W.widen (k := 0) (n := 0) (Nat.le_of_ble_eq_true rfl) (Nat.le_of_ble_eq_true rfl) ?_
    replace h := ob h; obtain ⟨τ7, eτ7, h⟩ := h
    refine sx_last C hs eτ7 dL_net_7 (fun H locs hs => ?_)
    refine lv_goto (tgt := 17) C.1 C.2.1 dL_net_8 (by decide) ?_
    refine lv_iconst (v := 0) C.1 C.2.1 dL_net_17 (by decide) ?_
    cases h
    refine W.widen (k := 1) (n := 6) (Nat.le_of_ble_eq_true rfl) (Nat.le_of_ble_eq_true rfl) ?_
    exact sx_iretG C hs hr rfl dL_net_18
def f_L_taxOf (N : Nat) (σ : Sto) (sz : Nat) (a0 : Nat) (v1 : Int32) (a2 : Nat) : Option (Int32 × Sto × Nat) :=
 (isO σ a0 10).bind fun _ =>
 (f_X11_taxOf N σ a0 v1).bind fun u3 =>
 bs u3 (fun j4 => if j4 = 0 then some (1, σ, sz) else if j4 = 3 then some (2, σ, sz) else none) fun x2 =>
 (sL σ a2 2 0 x2).bind fun τ7 =>
 some (0, τ7, sz)
set_option maxHeartbeats 4000000 in
set_option maxRecDepth 100000 in
theorem c_L_taxOf {l : Launch} (hfl : l.stackTraces = false) {g : PP} {N : Nat} {σ : Sto} {sz : Nat} {a0 : Nat} {v1 : Int32} {a2 : Nat} {r9 : Int32} {σ9 : Sto} {sz9 : Nat} (h : f_L_taxOf N σ sz a0 v1 a2 = some (r9, σ9, sz9)) : Met l yL_taxOf [Cond.codeWith yL_taxOf cL_taxOf 4 (some .int) [(0, 8, 11, 13), (0, 8, 14, 27)]] (rmk 14 1 6 291) (Pre g σ sz [.ref a0, .int v1, .ref a2]) (PstG g (vI r9) σ9 sz9) 1 6 (Aw g) := by
  refine va_MetW (hh := [(0, 8, 11, 13), (0, 8, 14, 27)]) (cc := cL_taxOf) (maxL := 4) (ret := (some .int)) (by decide) rfl ?_
  intro p e s m args below meth c s₁ B hml hv
  obtain ⟨rfl, C, hs⟩ := ctx_of B hml hv
  have C : Cx g p s m meth c cL_taxOf 4 "TillhouseLaw" := C
  have hr := B.returns
  have tb := vx_table (x := yL_taxOf) B (C.2.2.2.2.1.1 _ cw_L_taxOf _)
  have hl := lv_entry ([.ref a0, .int v1, .ref a2]) (n := 4) (Nat.le_of_ble_eq_true rfl)
  rw [lg_entry_eq]
  generalize (lg_sl ([.ref a0, .int v1, .ref a2]) ++ List.replicate (4 - (lg_sl ([.ref a0, .int v1, .ref a2])).length) Slot.unset).toArray = ls at hl ⊢
  have hl : lv_has ls 4 [(0, .ref a0), (1, .int v1), (2, .ref a2)] := hl
  unfold f_L_taxOf at h
  refine lv_aload_n C.1 C.2.1 dL_taxOf_0 rfl (lv_at hl 2 rfl) ?_
  refine lv_iconst (v := 0) C.1 C.2.1 dL_taxOf_1 (by decide) ?_
  refine lv_aload_n C.1 C.2.1 dL_taxOf_2 rfl (lv_at hl 0 rfl) ?_
  refine lv_iload_n C.1 C.2.1 dL_taxOf_3 rfl (lv_at hl 1 rfl) ?_
  replace h := ob h; obtain ⟨⟨⟩, i1, h⟩ := h
  replace h := ob h; obtain ⟨u3, ex2, h⟩ := h
  rcases u3 with j4 | x2
  · replace h := bsl h
    rcases Decidable.em (j4 = 0) with c5 | c5
    · replace h := ip c5 h
      subst c5
      cases h
      refine sx_xcallV (As := [.int v1]) (rest := [.int 0, .ref a2]) C hs (c_X11_taxOf hfl ex2) mo_X11_taxOf q1112 i1 rfl rfl hl.1 ⟨⟨(Nat.le_of_ble_eq_true rfl), (Nat.le_of_ble_eq_true rfl)⟩, (Nat.le_of_ble_eq_true rfl), (Nat.le_of_ble_eq_true rfl)⟩ rfl (Nat.le_of_ble_eq_true rfl) dL_taxOf_4 (fun k9 hk9 ce q9 H locs f1 f2 f3 f4 f5 f6 => ?_) (fun vr hv => (inlr hv).elim)
      obtain rfl := Sum.inl.inj hk9
      refine sx_catch (k := 0) (hp := []) (hs9 := [(0, 8, 14, 27)]) (a9 := 0) (b9 := 8) (h9 := 11) (d9 := 13) C tb (fun _ h => nomatch h) (by decide) (by decide) q339 f4 f5 f6 ?_
      refine lv_astore_n (lv' := [(3, .ref q9), (0, .ref a0), (1, .int v1), (2, .ref a2)]) C.1 C.2.1 dL_taxOf_11 rfl hl (by decide) rfl (fun ls hl => ?_)
      refine lv_iconst (v := 1) C.1 C.2.1 dL_taxOf_12 (by decide) ?_
      refine W.widen (k := 1) (n := 6) (Nat.le_of_ble_eq_true rfl) (Nat.le_of_ble_eq_true rfl) ?_
      exact sx_iretK C f1 f2 f3 hr rfl dL_taxOf_13
    · replace h := iN c5 h
      rcases Decidable.em (j4 = 3) with c6 | c6
      · replace h := ip c6 h
        subst c6
        cases h
        refine sx_xcallV (As := [.int v1]) (rest := [.int 0, .ref a2]) C hs (c_X11_taxOf hfl ex2) mo_X11_taxOf q1112 i1 rfl rfl hl.1 ⟨⟨(Nat.le_of_ble_eq_true rfl), (Nat.le_of_ble_eq_true rfl)⟩, (Nat.le_of_ble_eq_true rfl), (Nat.le_of_ble_eq_true rfl)⟩ rfl (Nat.le_of_ble_eq_true rfl) dL_taxOf_4 (fun k9 hk9 ce q9 H locs f1 f2 f3 f4 f5 f6 => ?_) (fun vr hv => (inlr hv).elim)
        obtain rfl := Sum.inl.inj hk9
        refine sx_catch (k := 3) (hp := [(0, 8, 11, 13)]) (hs9 := []) (a9 := 0) (b9 := 8) (h9 := 14) (d9 := 27) C tb (List.forall_mem_cons.mpr ⟨⟨by decide, 0, q339, by decide⟩, (fun _ h => nomatch h)⟩) (by decide) (by decide) q526 f4 f5 f6 ?_
        refine lv_astore_n (lv' := [(3, .ref q9), (0, .ref a0), (1, .int v1), (2, .ref a2)]) C.1 C.2.1 dL_taxOf_14 rfl hl (by decide) rfl (fun ls hl => ?_)
        refine lv_iconst (v := 2) C.1 C.2.1 dL_taxOf_15 (by decide) ?_
        refine W.widen (k := 1) (n := 6) (Nat.le_of_ble_eq_true rfl) (Nat.le_of_ble_eq_true rfl) ?_
        exact sx_iretK C f1 f2 f3 hr rfl dL_taxOf_16
      · replace h := iN c6 h
        cases h
  · replace h := bsr h
    refine sx_xcallV (As := [.int v1]) (rest := [.int 0, .ref a2]) C hs (c_X11_taxOf hfl ex2) mo_X11_taxOf q1112 i1 rfl rfl hl.1 ⟨⟨(Nat.le_of_ble_eq_true rfl), (Nat.le_of_ble_eq_true rfl)⟩, (Nat.le_of_ble_eq_true rfl), (Nat.le_of_ble_eq_true rfl)⟩ rfl (Nat.le_of_ble_eq_true rfl) dL_taxOf_4 (fun k9 hk9 => (inrl hk9).elim) (fun vr hv H locs hs => ?_)
    obtain rfl := Sum.inr.inj hv
    refine W.eq (g2 := F0 m 7 ls [.long x2, .int 0, .ref a2]) rfl ?_
    refine W.widen (k := 0) (n := 0) (Nat.le_of_ble_eq_true rfl) (Nat.le_of_ble_eq_true rfl) ?_
    replace h := ob h; obtain ⟨τ7, eτ7, h⟩ := h
    refine sx_last C hs eτ7 dL_taxOf_7 (fun H locs hs => ?_)
    refine lv_goto (tgt := 17) C.1 C.2.1 dL_taxOf_8 (by decide) ?_
    refine lv_iconst (v := 0) C.1 C.2.1 dL_taxOf_17 (by decide) ?_
    cases h
    refine W.widen (k := 1) (n := 6) (Nat.le_of_ble_eq_true rfl) (Nat.le_of_ble_eq_true rfl) ?_
    exact sx_iretG C hs hr rfl dL_taxOf_18
def f_L_cash (N : Nat) (σ : Sto) (sz : Nat) (a0 : Nat) (v1 : Int32) (a2 : Nat) : Option (Int32 × Sto × Nat) :=
 (isO σ a0 10).bind fun _ =>
 (f_X11_cash N σ a0 v1).bind fun u3 =>
 bs u3 (fun j4 => if j4 = 0 then some (1, σ, sz) else if j4 = 3 then some (2, σ, sz) else none) fun x2 =>
 (sL σ a2 2 0 x2).bind fun τ7 =>
 some (0, τ7, sz)
set_option maxHeartbeats 4000000 in
set_option maxRecDepth 100000 in
theorem c_L_cash {l : Launch} (hfl : l.stackTraces = false) {g : PP} {N : Nat} {σ : Sto} {sz : Nat} {a0 : Nat} {v1 : Int32} {a2 : Nat} {r9 : Int32} {σ9 : Sto} {sz9 : Nat} (h : f_L_cash N σ sz a0 v1 a2 = some (r9, σ9, sz9)) : Met l yL_cash [Cond.codeWith yL_cash cL_cash 4 (some .int) [(0, 8, 11, 13), (0, 8, 14, 27)]] (rmk 14 1 6 294) (Pre g σ sz [.ref a0, .int v1, .ref a2]) (PstG g (vI r9) σ9 sz9) 1 6 (Aw g) := by
  refine va_MetW (hh := [(0, 8, 11, 13), (0, 8, 14, 27)]) (cc := cL_cash) (maxL := 4) (ret := (some .int)) (by decide) rfl ?_
  intro p e s m args below meth c s₁ B hml hv
  obtain ⟨rfl, C, hs⟩ := ctx_of B hml hv
  have C : Cx g p s m meth c cL_cash 4 "TillhouseLaw" := C
  have hr := B.returns
  have tb := vx_table (x := yL_cash) B (C.2.2.2.2.1.1 _ cw_L_cash _)
  have hl := lv_entry ([.ref a0, .int v1, .ref a2]) (n := 4) (Nat.le_of_ble_eq_true rfl)
  rw [lg_entry_eq]
  generalize (lg_sl ([.ref a0, .int v1, .ref a2]) ++ List.replicate (4 - (lg_sl ([.ref a0, .int v1, .ref a2])).length) Slot.unset).toArray = ls at hl ⊢
  have hl : lv_has ls 4 [(0, .ref a0), (1, .int v1), (2, .ref a2)] := hl
  unfold f_L_cash at h
  refine lv_aload_n C.1 C.2.1 dL_cash_0 rfl (lv_at hl 2 rfl) ?_
  refine lv_iconst (v := 0) C.1 C.2.1 dL_cash_1 (by decide) ?_
  refine lv_aload_n C.1 C.2.1 dL_cash_2 rfl (lv_at hl 0 rfl) ?_
  refine lv_iload_n C.1 C.2.1 dL_cash_3 rfl (lv_at hl 1 rfl) ?_
  replace h := ob h; obtain ⟨⟨⟩, i1, h⟩ := h
  replace h := ob h; obtain ⟨u3, ex2, h⟩ := h
  rcases u3 with j4 | x2
  · replace h := bsl h
    rcases Decidable.em (j4 = 0) with c5 | c5
    · replace h := ip c5 h
      subst c5
      cases h
      refine sx_xcallV (As := [.int v1]) (rest := [.int 0, .ref a2]) C hs (c_X11_cash hfl ex2) mo_X11_cash q1134 i1 rfl rfl hl.1 ⟨⟨(Nat.le_of_ble_eq_true rfl), (Nat.le_of_ble_eq_true rfl)⟩, (Nat.le_of_ble_eq_true rfl), (Nat.le_of_ble_eq_true rfl)⟩ rfl (Nat.le_of_ble_eq_true rfl) dL_cash_4 (fun k9 hk9 ce q9 H locs f1 f2 f3 f4 f5 f6 => ?_) (fun vr hv => (inlr hv).elim)
      obtain rfl := Sum.inl.inj hk9
      refine sx_catch (k := 0) (hp := []) (hs9 := [(0, 8, 14, 27)]) (a9 := 0) (b9 := 8) (h9 := 11) (d9 := 13) C tb (fun _ h => nomatch h) (by decide) (by decide) q339 f4 f5 f6 ?_
      refine lv_astore_n (lv' := [(3, .ref q9), (0, .ref a0), (1, .int v1), (2, .ref a2)]) C.1 C.2.1 dL_cash_11 rfl hl (by decide) rfl (fun ls hl => ?_)
      refine lv_iconst (v := 1) C.1 C.2.1 dL_cash_12 (by decide) ?_
      refine W.widen (k := 1) (n := 6) (Nat.le_of_ble_eq_true rfl) (Nat.le_of_ble_eq_true rfl) ?_
      exact sx_iretK C f1 f2 f3 hr rfl dL_cash_13
    · replace h := iN c5 h
      rcases Decidable.em (j4 = 3) with c6 | c6
      · replace h := ip c6 h
        subst c6
        cases h
        refine sx_xcallV (As := [.int v1]) (rest := [.int 0, .ref a2]) C hs (c_X11_cash hfl ex2) mo_X11_cash q1134 i1 rfl rfl hl.1 ⟨⟨(Nat.le_of_ble_eq_true rfl), (Nat.le_of_ble_eq_true rfl)⟩, (Nat.le_of_ble_eq_true rfl), (Nat.le_of_ble_eq_true rfl)⟩ rfl (Nat.le_of_ble_eq_true rfl) dL_cash_4 (fun k9 hk9 ce q9 H locs f1 f2 f3 f4 f5 f6 => ?_) (fun vr hv => (inlr hv).elim)
        obtain rfl := Sum.inl.inj hk9
        refine sx_catch (k := 3) (hp := [(0, 8, 11, 13)]) (hs9 := []) (a9 := 0) (b9 := 8) (h9 := 14) (d9 := 27) C tb (List.forall_mem_cons.mpr ⟨⟨by decide, 0, q339, by decide⟩, (fun _ h => nomatch h)⟩) (by decide) (by decide) q526 f4 f5 f6 ?_
        refine lv_astore_n (lv' := [(3, .ref q9), (0, .ref a0), (1, .int v1), (2, .ref a2)]) C.1 C.2.1 dL_cash_14 rfl hl (by decide) rfl (fun ls hl => ?_)
        refine lv_iconst (v := 2) C.1 C.2.1 dL_cash_15 (by decide) ?_
        refine W.widen (k := 1) (n := 6) (Nat.le_of_ble_eq_true rfl) (Nat.le_of_ble_eq_true rfl) ?_
        exact sx_iretK C f1 f2 f3 hr rfl dL_cash_16
      · replace h := iN c6 h
        cases h
  · replace h := bsr h
    refine sx_xcallV (As := [.int v1]) (rest := [.int 0, .ref a2]) C hs (c_X11_cash hfl ex2) mo_X11_cash q1134 i1 rfl rfl hl.1 ⟨⟨(Nat.le_of_ble_eq_true rfl), (Nat.le_of_ble_eq_true rfl)⟩, (Nat.le_of_ble_eq_true rfl), (Nat.le_of_ble_eq_true rfl)⟩ rfl (Nat.le_of_ble_eq_true rfl) dL_cash_4 (fun k9 hk9 => (inrl hk9).elim) (fun vr hv H locs hs => ?_)
    obtain rfl := Sum.inr.inj hv
    refine W.eq (g2 := F0 m 7 ls [.long x2, .int 0, .ref a2]) rfl ?_
    refine W.widen (k := 0) (n := 0) (Nat.le_of_ble_eq_true rfl) (Nat.le_of_ble_eq_true rfl) ?_
    replace h := ob h; obtain ⟨τ7, eτ7, h⟩ := h
    refine sx_last C hs eτ7 dL_cash_7 (fun H locs hs => ?_)
    refine lv_goto (tgt := 17) C.1 C.2.1 dL_cash_8 (by decide) ?_
    refine lv_iconst (v := 0) C.1 C.2.1 dL_cash_17 (by decide) ?_
    cases h
    refine W.widen (k := 1) (n := 6) (Nat.le_of_ble_eq_true rfl) (Nat.le_of_ble_eq_true rfl) ?_
    exact sx_iretG C hs hr rfl dL_cash_18
def f_L_weigh (σ : Sto) (sz : Nat) (a0 : Nat) (v1 : Int32) (a2 : Nat) : Option (Int32 × Sto × Nat) :=
 (isO σ a0 10).bind fun _ =>
 b2 (f_X11_weigh σ a0 v1) fun u4 τ3 =>
 bs u4 (fun j5 => if j5 = 1 then some (1, τ3, sz) else if j5 = 4 then some (2, τ3, sz) else none) fun x2 =>
 (sL τ3 a2 2 0 (Int32.toInt64 x2)).bind fun τ8 =>
 some (0, τ8, sz)
set_option maxHeartbeats 4000000 in
set_option maxRecDepth 100000 in
theorem c_L_weigh {l : Launch} (hfl : l.stackTraces = false) {g : PP} {σ : Sto} {sz : Nat} {a0 : Nat} {v1 : Int32} {a2 : Nat} {r9 : Int32} {σ9 : Sto} {sz9 : Nat} (h : f_L_weigh σ sz a0 v1 a2 = some (r9, σ9, sz9)) : Met l yL_weigh [Cond.codeWith yL_weigh cL_weigh 4 (some .int) [(0, 9, 12, 15), (0, 9, 15, 21)]] (rmk 8 1 6 146) (Pre g σ sz [.ref a0, .int v1, .ref a2]) (PstG g (vI r9) σ9 sz9) 1 6 (Aw g) := by
  refine va_MetW (hh := [(0, 9, 12, 15), (0, 9, 15, 21)]) (cc := cL_weigh) (maxL := 4) (ret := (some .int)) (by decide) rfl ?_
  intro p e s m args below meth c s₁ B hml hv
  obtain ⟨rfl, C, hs⟩ := ctx_of B hml hv
  have C : Cx g p s m meth c cL_weigh 4 "TillhouseLaw" := C
  have hr := B.returns
  have tb := vx_table (x := yL_weigh) B (C.2.2.2.2.1.1 _ cw_L_weigh _)
  have hl := lv_entry ([.ref a0, .int v1, .ref a2]) (n := 4) (Nat.le_of_ble_eq_true rfl)
  rw [lg_entry_eq]
  generalize (lg_sl ([.ref a0, .int v1, .ref a2]) ++ List.replicate (4 - (lg_sl ([.ref a0, .int v1, .ref a2])).length) Slot.unset).toArray = ls at hl ⊢
  have hl : lv_has ls 4 [(0, .ref a0), (1, .int v1), (2, .ref a2)] := hl
  unfold f_L_weigh at h
  refine lv_aload_n C.1 C.2.1 dL_weigh_0 rfl (lv_at hl 2 rfl) ?_
  refine lv_iconst (v := 0) C.1 C.2.1 dL_weigh_1 (by decide) ?_
  refine lv_aload_n C.1 C.2.1 dL_weigh_2 rfl (lv_at hl 0 rfl) ?_
  refine lv_iload_n C.1 C.2.1 dL_weigh_3 rfl (lv_at hl 1 rfl) ?_
  replace h := ob h; obtain ⟨⟨⟩, i1, h⟩ := h
  replace h := ob2 h; obtain ⟨u4, τ3, ex2, h⟩ := h
  rcases u4 with j5 | x2
  · replace h := bsl h
    rcases Decidable.em (j5 = 1) with c6 | c6
    · replace h := ip c6 h
      subst c6
      cases h
      refine sx_xcallV (As := [.int v1]) (rest := [.int 0, .ref a2]) C hs (c_X11_weigh hfl ex2) mo_X11_weigh q1142 i1 rfl rfl hl.1 ⟨⟨(Nat.le_of_ble_eq_true rfl), (Nat.le_of_ble_eq_true rfl)⟩, (Nat.le_of_ble_eq_true rfl), (Nat.le_of_ble_eq_true rfl)⟩ rfl (Nat.le_of_ble_eq_true rfl) dL_weigh_4 (fun k9 hk9 ce q9 H locs f1 f2 f3 f4 f5 f6 => ?_) (fun vr hv => (inlr hv).elim)
      obtain rfl := Sum.inl.inj hk9
      refine sx_catch (k := 1) (hp := []) (hs9 := [(0, 9, 15, 21)]) (a9 := 0) (b9 := 9) (h9 := 12) (d9 := 15) C tb (fun _ h => nomatch h) (by decide) (by decide) q419 f4 f5 f6 ?_
      refine lv_astore_n (lv' := [(3, .ref q9), (0, .ref a0), (1, .int v1), (2, .ref a2)]) C.1 C.2.1 dL_weigh_12 rfl hl (by decide) rfl (fun ls hl => ?_)
      refine lv_iconst (v := 1) C.1 C.2.1 dL_weigh_13 (by decide) ?_
      refine W.widen (k := 1) (n := 6) (Nat.le_of_ble_eq_true rfl) (Nat.le_of_ble_eq_true rfl) ?_
      exact sx_iretK C f1 f2 f3 hr rfl dL_weigh_14
    · replace h := iN c6 h
      rcases Decidable.em (j5 = 4) with c7 | c7
      · replace h := ip c7 h
        subst c7
        cases h
        refine sx_xcallV (As := [.int v1]) (rest := [.int 0, .ref a2]) C hs (c_X11_weigh hfl ex2) mo_X11_weigh q1142 i1 rfl rfl hl.1 ⟨⟨(Nat.le_of_ble_eq_true rfl), (Nat.le_of_ble_eq_true rfl)⟩, (Nat.le_of_ble_eq_true rfl), (Nat.le_of_ble_eq_true rfl)⟩ rfl (Nat.le_of_ble_eq_true rfl) dL_weigh_4 (fun k9 hk9 ce q9 H locs f1 f2 f3 f4 f5 f6 => ?_) (fun vr hv => (inlr hv).elim)
        obtain rfl := Sum.inl.inj hk9
        refine sx_catch (k := 4) (hp := [(0, 9, 12, 15)]) (hs9 := []) (a9 := 0) (b9 := 9) (h9 := 15) (d9 := 21) C tb (List.forall_mem_cons.mpr ⟨⟨by decide, 1, q419, by decide⟩, (fun _ h => nomatch h)⟩) (by decide) (by decide) q494 f4 f5 f6 ?_
        refine lv_astore_n (lv' := [(3, .ref q9), (0, .ref a0), (1, .int v1), (2, .ref a2)]) C.1 C.2.1 dL_weigh_15 rfl hl (by decide) rfl (fun ls hl => ?_)
        refine lv_iconst (v := 2) C.1 C.2.1 dL_weigh_16 (by decide) ?_
        refine W.widen (k := 1) (n := 6) (Nat.le_of_ble_eq_true rfl) (Nat.le_of_ble_eq_true rfl) ?_
        exact sx_iretK C f1 f2 f3 hr rfl dL_weigh_17
      · replace h := iN c7 h
        cases h
  · replace h := bsr h
    refine sx_xcallV (As := [.int v1]) (rest := [.int 0, .ref a2]) C hs (c_X11_weigh hfl ex2) mo_X11_weigh q1142 i1 rfl rfl hl.1 ⟨⟨(Nat.le_of_ble_eq_true rfl), (Nat.le_of_ble_eq_true rfl)⟩, (Nat.le_of_ble_eq_true rfl), (Nat.le_of_ble_eq_true rfl)⟩ rfl (Nat.le_of_ble_eq_true rfl) dL_weigh_4 (fun k9 hk9 => (inrl hk9).elim) (fun vr hv H locs hs => ?_)
    obtain rfl := Sum.inr.inj hv
    refine W.eq (g2 := F0 m 7 ls [.int x2, .int 0, .ref a2]) rfl ?_
    refine W.widen (k := 0) (n := 0) (Nat.le_of_ble_eq_true rfl) (Nat.le_of_ble_eq_true rfl) ?_
    refine lv_i2l (v := Int32.toInt64 x2) C.1 C.2.1 dL_weigh_7 rfl ?_
    replace h := ob h; obtain ⟨τ8, eτ8, h⟩ := h
    refine sx_last C hs eτ8 dL_weigh_8 (fun H locs hs => ?_)
    refine lv_goto (tgt := 18) C.1 C.2.1 dL_weigh_9 (by decide) ?_
    refine lv_iconst (v := 0) C.1 C.2.1 dL_weigh_18 (by decide) ?_
    cases h
    refine W.widen (k := 1) (n := 6) (Nat.le_of_ble_eq_true rfl) (Nat.le_of_ble_eq_true rfl) ?_
    exact sx_iretG C hs hr rfl dL_weigh_19
def f_L_share (N : Nat) (σ : Sto) (sz : Nat) (a0 : Nat) (v1 : Int64) (v3 : Int32) (a4 : Nat) : Option (Int32 × Sto × Nat) :=
 (isO σ a0 10).bind fun _ =>
 b2 (f_X11_share N σ a0 v1 v3) fun u4 τ3 =>
 bs u4 (fun j5 => if j5 = 1 then some (1, τ3, sz) else if j5 = 5 then some (2, τ3, sz) else none) fun x2 =>
 (sL τ3 a4 2 0 (Int32.toInt64 x2)).bind fun τ8 =>
 some (0, τ8, sz)
set_option maxHeartbeats 4000000 in
set_option maxRecDepth 100000 in
theorem c_L_share {l : Launch} (hfl : l.stackTraces = false) {g : PP} {N : Nat} {σ : Sto} {sz : Nat} {a0 : Nat} {v1 : Int64} {v3 : Int32} {a4 : Nat} {r9 : Int32} {σ9 : Sto} {sz9 : Nat} (h : f_L_share N σ sz a0 v1 v3 a4 = some (r9, σ9, sz9)) : Met l yL_share [Cond.codeWith yL_share cL_share 6 (some .int) [(0, 11, 14, 15), (0, 11, 18, 105)]] (rmk 8 1 6 148) (Pre g σ sz [.ref a0, .long v1, .int v3, .ref a4]) (PstG g (vI r9) σ9 sz9) 1 6 (Aw g) := by
  refine va_MetW (hh := [(0, 11, 14, 15), (0, 11, 18, 105)]) (cc := cL_share) (maxL := 6) (ret := (some .int)) (by decide) rfl ?_
  intro p e s m args below meth c s₁ B hml hv
  obtain ⟨rfl, C, hs⟩ := ctx_of B hml hv
  have C : Cx g p s m meth c cL_share 6 "TillhouseLaw" := C
  have hr := B.returns
  have tb := vx_table (x := yL_share) B (C.2.2.2.2.1.1 _ cw_L_share _)
  have hl := lv_entry ([.ref a0, .long v1, .int v3, .ref a4]) (n := 6) (Nat.le_of_ble_eq_true rfl)
  rw [lg_entry_eq]
  generalize (lg_sl ([.ref a0, .long v1, .int v3, .ref a4]) ++ List.replicate (6 - (lg_sl ([.ref a0, .long v1, .int v3, .ref a4])).length) Slot.unset).toArray = ls at hl ⊢
  have hl : lv_has ls 6 [(0, .ref a0), (1, .long v1), (3, .int v3), (4, .ref a4)] := hl
  unfold f_L_share at h
  refine lv_aload C.1 C.2.1 dL_share_0 (lv_at hl 3 rfl) ?_
  refine lv_iconst (v := 0) C.1 C.2.1 dL_share_2 (by decide) ?_
  refine lv_aload_n C.1 C.2.1 dL_share_3 rfl (lv_at hl 0 rfl) ?_
  refine lv_lload_n C.1 C.2.1 dL_share_4 rfl (lv_at hl 1 rfl) ?_
  refine lv_iload_n C.1 C.2.1 dL_share_5 rfl (lv_at hl 2 rfl) ?_
  replace h := ob h; obtain ⟨⟨⟩, i1, h⟩ := h
  replace h := ob2 h; obtain ⟨u4, τ3, ex2, h⟩ := h
  rcases u4 with j5 | x2
  · replace h := bsl h
    rcases Decidable.em (j5 = 1) with c6 | c6
    · replace h := ip c6 h
      subst c6
      cases h
      refine sx_xcallV (As := [.long v1, .int v3]) (rest := [.int 0, .ref a4]) C hs (c_X11_share hfl ex2) mo_X11_share q1158 i1 rfl rfl hl.1 ⟨⟨(Nat.le_of_ble_eq_true rfl), (Nat.le_of_ble_eq_true rfl)⟩, (Nat.le_of_ble_eq_true rfl), (Nat.le_of_ble_eq_true rfl)⟩ rfl (Nat.le_of_ble_eq_true rfl) dL_share_6 (fun k9 hk9 ce q9 H locs f1 f2 f3 f4 f5 f6 => ?_) (fun vr hv => (inlr hv).elim)
      obtain rfl := Sum.inl.inj hk9
      refine sx_catch (k := 1) (hp := []) (hs9 := [(0, 11, 18, 105)]) (a9 := 0) (b9 := 11) (h9 := 14) (d9 := 15) C tb (fun _ h => nomatch h) (by decide) (by decide) q419 f4 f5 f6 ?_
      refine lv_astore (lv' := [(5, .ref q9), (0, .ref a0), (1, .long v1), (3, .int v3), (4, .ref a4)]) C.1 C.2.1 dL_share_14 hl (by decide) rfl (fun ls hl => ?_)
      refine lv_iconst (v := 1) C.1 C.2.1 dL_share_16 (by decide) ?_
      refine W.widen (k := 1) (n := 6) (Nat.le_of_ble_eq_true rfl) (Nat.le_of_ble_eq_true rfl) ?_
      exact sx_iretK C f1 f2 f3 hr rfl dL_share_17
    · replace h := iN c6 h
      rcases Decidable.em (j5 = 5) with c7 | c7
      · replace h := ip c7 h
        subst c7
        cases h
        refine sx_xcallV (As := [.long v1, .int v3]) (rest := [.int 0, .ref a4]) C hs (c_X11_share hfl ex2) mo_X11_share q1158 i1 rfl rfl hl.1 ⟨⟨(Nat.le_of_ble_eq_true rfl), (Nat.le_of_ble_eq_true rfl)⟩, (Nat.le_of_ble_eq_true rfl), (Nat.le_of_ble_eq_true rfl)⟩ rfl (Nat.le_of_ble_eq_true rfl) dL_share_6 (fun k9 hk9 ce q9 H locs f1 f2 f3 f4 f5 f6 => ?_) (fun vr hv => (inlr hv).elim)
        obtain rfl := Sum.inl.inj hk9
        refine sx_catch (k := 5) (hp := [(0, 11, 14, 15)]) (hs9 := []) (a9 := 0) (b9 := 11) (h9 := 18) (d9 := 105) C tb (List.forall_mem_cons.mpr ⟨⟨by decide, 1, q419, by decide⟩, (fun _ h => nomatch h)⟩) (by decide) (by decide) q1031 f4 f5 f6 ?_
        refine lv_astore (lv' := [(5, .ref q9), (0, .ref a0), (1, .long v1), (3, .int v3), (4, .ref a4)]) C.1 C.2.1 dL_share_18 hl (by decide) rfl (fun ls hl => ?_)
        refine lv_iconst (v := 2) C.1 C.2.1 dL_share_20 (by decide) ?_
        refine W.widen (k := 1) (n := 6) (Nat.le_of_ble_eq_true rfl) (Nat.le_of_ble_eq_true rfl) ?_
        exact sx_iretK C f1 f2 f3 hr rfl dL_share_21
      · replace h := iN c7 h
        cases h
  · replace h := bsr h
    refine sx_xcallV (As := [.long v1, .int v3]) (rest := [.int 0, .ref a4]) C hs (c_X11_share hfl ex2) mo_X11_share q1158 i1 rfl rfl hl.1 ⟨⟨(Nat.le_of_ble_eq_true rfl), (Nat.le_of_ble_eq_true rfl)⟩, (Nat.le_of_ble_eq_true rfl), (Nat.le_of_ble_eq_true rfl)⟩ rfl (Nat.le_of_ble_eq_true rfl) dL_share_6 (fun k9 hk9 => (inrl hk9).elim) (fun vr hv H locs hs => ?_)
    obtain rfl := Sum.inr.inj hv
    refine W.eq (g2 := F0 m 9 ls [.int x2, .int 0, .ref a4]) rfl ?_
    refine W.widen (k := 0) (n := 0) (Nat.le_of_ble_eq_true rfl) (Nat.le_of_ble_eq_true rfl) ?_
    refine lv_i2l (v := Int32.toInt64 x2) C.1 C.2.1 dL_share_9 rfl ?_
    replace h := ob h; obtain ⟨τ8, eτ8, h⟩ := h
    refine sx_last C hs eτ8 dL_share_10 (fun H locs hs => ?_)
    refine lv_goto (tgt := 22) C.1 C.2.1 dL_share_11 (by decide) ?_
    refine lv_iconst (v := 0) C.1 C.2.1 dL_share_22 (by decide) ?_
    cases h
    refine W.widen (k := 1) (n := 6) (Nat.le_of_ble_eq_true rfl) (Nat.le_of_ble_eq_true rfl) ?_
    exact sx_iretG C hs hr rfl dL_share_23
def f_L_part (σ : Sto) (sz : Nat) (a0 : Nat) (v1 : Int32) (a2 : Nat) : Option (Int32 × Sto × Nat) :=
 (isO σ a0 10).bind fun _ =>
 (f_X11_part σ a0 v1).bind fun u3 =>
 bs u3 (fun j4 => if j4 = 2 then some (1, σ, sz) else none) fun x2 =>
 (sL σ a2 2 0 x2).bind fun τ6 =>
 some (0, τ6, sz)
set_option maxHeartbeats 4000000 in
set_option maxRecDepth 100000 in
theorem c_L_part {l : Launch} (hfl : l.stackTraces = false) {g : PP} {σ : Sto} {sz : Nat} {a0 : Nat} {v1 : Int32} {a2 : Nat} {r9 : Int32} {σ9 : Sto} {sz9 : Nat} (h : f_L_part σ sz a0 v1 a2 = some (r9, σ9, sz9)) : Met l yL_part [Cond.codeWith yL_part cL_part 4 (some .int) [(0, 8, 11, 33)]] (rmk 7 1 6 121) (Pre g σ sz [.ref a0, .int v1, .ref a2]) (PstG g (vI r9) σ9 sz9) 1 6 (Aw g) := by
  refine va_MetW (hh := [(0, 8, 11, 33)]) (cc := cL_part) (maxL := 4) (ret := (some .int)) (by decide) rfl ?_
  intro p e s m args below meth c s₁ B hml hv
  obtain ⟨rfl, C, hs⟩ := ctx_of B hml hv
  have C : Cx g p s m meth c cL_part 4 "TillhouseLaw" := C
  have hr := B.returns
  have tb := vx_table (x := yL_part) B (C.2.2.2.2.1.1 _ cw_L_part _)
  have hl := lv_entry ([.ref a0, .int v1, .ref a2]) (n := 4) (Nat.le_of_ble_eq_true rfl)
  rw [lg_entry_eq]
  generalize (lg_sl ([.ref a0, .int v1, .ref a2]) ++ List.replicate (4 - (lg_sl ([.ref a0, .int v1, .ref a2])).length) Slot.unset).toArray = ls at hl ⊢
  have hl : lv_has ls 4 [(0, .ref a0), (1, .int v1), (2, .ref a2)] := hl
  unfold f_L_part at h
  refine lv_aload_n C.1 C.2.1 dL_part_0 rfl (lv_at hl 2 rfl) ?_
  refine lv_iconst (v := 0) C.1 C.2.1 dL_part_1 (by decide) ?_
  refine lv_aload_n C.1 C.2.1 dL_part_2 rfl (lv_at hl 0 rfl) ?_
  refine lv_iload_n C.1 C.2.1 dL_part_3 rfl (lv_at hl 1 rfl) ?_
  replace h := ob h; obtain ⟨⟨⟩, i1, h⟩ := h
  replace h := ob h; obtain ⟨u3, ex2, h⟩ := h
  rcases u3 with j4 | x2
  · replace h := bsl h
    rcases Decidable.em (j4 = 2) with c5 | c5
    · replace h := ip c5 h
      subst c5
      cases h
      refine sx_xcallV (As := [.int v1]) (rest := [.int 0, .ref a2]) C hs (c_X11_part hfl ex2) mo_X11_part q1189 i1 rfl rfl hl.1 ⟨⟨(Nat.le_of_ble_eq_true rfl), (Nat.le_of_ble_eq_true rfl)⟩, (Nat.le_of_ble_eq_true rfl), (Nat.le_of_ble_eq_true rfl)⟩ rfl (Nat.le_of_ble_eq_true rfl) dL_part_4 (fun k9 hk9 ce q9 H locs f1 f2 f3 f4 f5 f6 => ?_) (fun vr hv => (inlr hv).elim)
      obtain rfl := Sum.inl.inj hk9
      refine sx_catch (k := 2) (hp := []) (hs9 := []) (a9 := 0) (b9 := 8) (h9 := 11) (d9 := 33) C tb (fun _ h => nomatch h) (by decide) (by decide) q569 f4 f5 f6 ?_
      refine lv_astore_n (lv' := [(3, .ref q9), (0, .ref a0), (1, .int v1), (2, .ref a2)]) C.1 C.2.1 dL_part_11 rfl hl (by decide) rfl (fun ls hl => ?_)
      refine lv_iconst (v := 1) C.1 C.2.1 dL_part_12 (by decide) ?_
      refine W.widen (k := 1) (n := 6) (Nat.le_of_ble_eq_true rfl) (Nat.le_of_ble_eq_true rfl) ?_
      exact sx_iretK C f1 f2 f3 hr rfl dL_part_13
    · replace h := iN c5 h
      cases h
  · replace h := bsr h
    refine sx_xcallV (As := [.int v1]) (rest := [.int 0, .ref a2]) C hs (c_X11_part hfl ex2) mo_X11_part q1189 i1 rfl rfl hl.1 ⟨⟨(Nat.le_of_ble_eq_true rfl), (Nat.le_of_ble_eq_true rfl)⟩, (Nat.le_of_ble_eq_true rfl), (Nat.le_of_ble_eq_true rfl)⟩ rfl (Nat.le_of_ble_eq_true rfl) dL_part_4 (fun k9 hk9 => (inrl hk9).elim) (fun vr hv H locs hs => ?_)
    obtain rfl := Sum.inr.inj hv
    refine W.eq (g2 := F0 m 7 ls [.long x2, .int 0, .ref a2]) rfl ?_
    refine W.widen (k := 0) (n := 0) (Nat.le_of_ble_eq_true rfl) (Nat.le_of_ble_eq_true rfl) ?_
    replace h := ob h; obtain ⟨τ6, eτ6, h⟩ := h
    refine sx_last C hs eτ6 dL_part_7 (fun H locs hs => ?_)
    refine lv_goto (tgt := 14) C.1 C.2.1 dL_part_8 (by decide) ?_
    refine lv_iconst (v := 0) C.1 C.2.1 dL_part_14 (by decide) ?_
    cases h
    refine W.widen (k := 1) (n := 6) (Nat.le_of_ble_eq_true rfl) (Nat.le_of_ble_eq_true rfl) ?_
    exact sx_iretG C hs hr rfl dL_part_15
def f_L_interest (σ : Sto) (sz : Nat) (a0 : Nat) (v1 : Int64) (v3 : Int32) (v4 : Int32) (v5 : Int32) (v6 : Int32) (a7 : Nat) : Option (Int32 × Sto × Nat) :=
 (isO σ a0 10).bind fun _ =>
 (f_X11_interest a0 v1 v3 v4 v5 v6).bind fun u3 =>
 bs u3 (fun j4 => if j4 = 1 then some (1, σ, sz) else if j4 = 3 then some (2, σ, sz) else none) fun x2 =>
 (sL σ a7 2 0 x2).bind fun τ7 =>
 some (0, τ7, sz)
set_option maxHeartbeats 4000000 in
set_option maxRecDepth 100000 in
theorem c_L_interest {l : Launch} (hfl : l.stackTraces = false) {g : PP} {σ : Sto} {sz : Nat} {a0 : Nat} {v1 : Int64} {v3 : Int32} {v4 : Int32} {v5 : Int32} {v6 : Int32} {a7 : Nat} {r9 : Int32} {σ9 : Sto} {sz9 : Nat} (h : f_L_interest σ sz a0 v1 v3 v4 v5 v6 a7 = some (r9, σ9, sz9)) : Met l yL_interest [Cond.codeWith yL_interest cL_interest 9 (some .int) [(0, 16, 19, 15), (0, 16, 23, 27)]] (rmk 10 1 6 203) (Pre g σ sz [.ref a0, .long v1, .int v3, .int v4, .int v5, .int v6, .ref a7]) (PstG g (vI r9) σ9 sz9) 1 6 (Aw g) := by
  refine va_MetW (hh := [(0, 16, 19, 15), (0, 16, 23, 27)]) (cc := cL_interest) (maxL := 9) (ret := (some .int)) (by decide) rfl ?_
  intro p e s m args below meth c s₁ B hml hv
  obtain ⟨rfl, C, hs⟩ := ctx_of B hml hv
  have C : Cx g p s m meth c cL_interest 9 "TillhouseLaw" := C
  have hr := B.returns
  have tb := vx_table (x := yL_interest) B (C.2.2.2.2.1.1 _ cw_L_interest _)
  have hl := lv_entry ([.ref a0, .long v1, .int v3, .int v4, .int v5, .int v6, .ref a7]) (n := 9) (Nat.le_of_ble_eq_true rfl)
  rw [lg_entry_eq]
  generalize (lg_sl ([.ref a0, .long v1, .int v3, .int v4, .int v5, .int v6, .ref a7]) ++ List.replicate (9 - (lg_sl ([.ref a0, .long v1, .int v3, .int v4, .int v5, .int v6, .ref a7])).length) Slot.unset).toArray = ls at hl ⊢
  have hl : lv_has ls 9 [(0, .ref a0), (1, .long v1), (3, .int v3), (4, .int v4), (5, .int v5), (6, .int v6), (7, .ref a7)] := hl
  unfold f_L_interest at h
  refine lv_aload C.1 C.2.1 dL_interest_0 (lv_at hl 6 rfl) ?_
  refine lv_iconst (v := 0) C.1 C.2.1 dL_interest_2 (by decide) ?_
  refine lv_aload_n C.1 C.2.1 dL_interest_3 rfl (lv_at hl 0 rfl) ?_
  refine lv_lload_n C.1 C.2.1 dL_interest_4 rfl (lv_at hl 1 rfl) ?_
  refine lv_iload_n C.1 C.2.1 dL_interest_5 rfl (lv_at hl 2 rfl) ?_
  refine lv_iload C.1 C.2.1 dL_interest_6 (lv_at hl 3 rfl) ?_
  refine lv_iload C.1 C.2.1 dL_interest_8 (lv_at hl 4 rfl) ?_
  refine lv_iload C.1 C.2.1 dL_interest_10 (lv_at hl 5 rfl) ?_
  replace h := ob h; obtain ⟨⟨⟩, i1, h⟩ := h
  replace h := ob h; obtain ⟨u3, ex2, h⟩ := h
  rcases u3 with j4 | x2
  · replace h := bsl h
    rcases Decidable.em (j4 = 1) with c5 | c5
    · replace h := ip c5 h
      subst c5
      cases h
      refine sx_xcallV (As := [.long v1, .int v3, .int v4, .int v5, .int v6]) (rest := [.int 0, .ref a7]) C hs (c_X11_interest hfl ex2) mo_X11_interest q1197 i1 rfl rfl hl.1 ⟨⟨(Nat.le_of_ble_eq_true rfl), (Nat.le_of_ble_eq_true rfl)⟩, (Nat.le_of_ble_eq_true rfl), (Nat.le_of_ble_eq_true rfl)⟩ rfl (Nat.le_of_ble_eq_true rfl) dL_interest_12 (fun k9 hk9 ce q9 H locs f1 f2 f3 f4 f5 f6 => ?_) (fun vr hv => (inlr hv).elim)
      obtain rfl := Sum.inl.inj hk9
      refine sx_catch (k := 1) (hp := []) (hs9 := [(0, 16, 23, 27)]) (a9 := 0) (b9 := 16) (h9 := 19) (d9 := 15) C tb (fun _ h => nomatch h) (by decide) (by decide) q419 f4 f5 f6 ?_
      refine lv_astore (lv' := [(8, .ref q9), (0, .ref a0), (1, .long v1), (3, .int v3), (4, .int v4), (5, .int v5), (6, .int v6), (7, .ref a7)]) C.1 C.2.1 dL_interest_19 hl (by decide) rfl (fun ls hl => ?_)
      refine lv_iconst (v := 1) C.1 C.2.1 dL_interest_21 (by decide) ?_
      refine W.widen (k := 1) (n := 6) (Nat.le_of_ble_eq_true rfl) (Nat.le_of_ble_eq_true rfl) ?_
      exact sx_iretK C f1 f2 f3 hr rfl dL_interest_22
    · replace h := iN c5 h
      rcases Decidable.em (j4 = 3) with c6 | c6
      · replace h := ip c6 h
        subst c6
        cases h
        refine sx_xcallV (As := [.long v1, .int v3, .int v4, .int v5, .int v6]) (rest := [.int 0, .ref a7]) C hs (c_X11_interest hfl ex2) mo_X11_interest q1197 i1 rfl rfl hl.1 ⟨⟨(Nat.le_of_ble_eq_true rfl), (Nat.le_of_ble_eq_true rfl)⟩, (Nat.le_of_ble_eq_true rfl), (Nat.le_of_ble_eq_true rfl)⟩ rfl (Nat.le_of_ble_eq_true rfl) dL_interest_12 (fun k9 hk9 ce q9 H locs f1 f2 f3 f4 f5 f6 => ?_) (fun vr hv => (inlr hv).elim)
        obtain rfl := Sum.inl.inj hk9
        refine sx_catch (k := 3) (hp := [(0, 16, 19, 15)]) (hs9 := []) (a9 := 0) (b9 := 16) (h9 := 23) (d9 := 27) C tb (List.forall_mem_cons.mpr ⟨⟨by decide, 1, q419, by decide⟩, (fun _ h => nomatch h)⟩) (by decide) (by decide) q526 f4 f5 f6 ?_
        refine lv_astore (lv' := [(8, .ref q9), (0, .ref a0), (1, .long v1), (3, .int v3), (4, .int v4), (5, .int v5), (6, .int v6), (7, .ref a7)]) C.1 C.2.1 dL_interest_23 hl (by decide) rfl (fun ls hl => ?_)
        refine lv_iconst (v := 2) C.1 C.2.1 dL_interest_25 (by decide) ?_
        refine W.widen (k := 1) (n := 6) (Nat.le_of_ble_eq_true rfl) (Nat.le_of_ble_eq_true rfl) ?_
        exact sx_iretK C f1 f2 f3 hr rfl dL_interest_26
      · replace h := iN c6 h
        cases h
  · replace h := bsr h
    refine sx_xcallV (As := [.long v1, .int v3, .int v4, .int v5, .int v6]) (rest := [.int 0, .ref a7]) C hs (c_X11_interest hfl ex2) mo_X11_interest q1197 i1 rfl rfl hl.1 ⟨⟨(Nat.le_of_ble_eq_true rfl), (Nat.le_of_ble_eq_true rfl)⟩, (Nat.le_of_ble_eq_true rfl), (Nat.le_of_ble_eq_true rfl)⟩ rfl (Nat.le_of_ble_eq_true rfl) dL_interest_12 (fun k9 hk9 => (inrl hk9).elim) (fun vr hv H locs hs => ?_)
    obtain rfl := Sum.inr.inj hv
    refine W.eq (g2 := F0 m 15 ls [.long x2, .int 0, .ref a7]) rfl ?_
    refine W.widen (k := 0) (n := 0) (Nat.le_of_ble_eq_true rfl) (Nat.le_of_ble_eq_true rfl) ?_
    replace h := ob h; obtain ⟨τ7, eτ7, h⟩ := h
    refine sx_last C hs eτ7 dL_interest_15 (fun H locs hs => ?_)
    refine lv_goto (tgt := 27) C.1 C.2.1 dL_interest_16 (by decide) ?_
    refine lv_iconst (v := 0) C.1 C.2.1 dL_interest_27 (by decide) ?_
    cases h
    refine W.widen (k := 1) (n := 6) (Nat.le_of_ble_eq_true rfl) (Nat.le_of_ble_eq_true rfl) ?_
    exact sx_iretG C hs hr rfl dL_interest_28
def f_L_lend (N : Nat) (σ : Sto) (sz : Nat) (a0 : Nat) (v1 : Int64) (v3 : Int32) (v4 : Int64) (a6 : Nat) : Option (Int32 × Sto × Nat) :=
 (isO σ a0 10).bind fun _ =>
 b2 (f_X11_lend N σ a0 v1 v3 v4) fun u4 τ3 =>
 bs u4 (fun j5 => if j5 = 1 then some (1, τ3, sz) else if j5 = 5 then some (2, τ3, sz) else if j5 = 4 then some (3, τ3, sz) else none) fun x2 =>
 (sL τ3 a6 2 0 (Int32.toInt64 x2)).bind fun τ9 =>
 some (0, τ9, sz)
set_option maxHeartbeats 4000000 in
set_option maxRecDepth 100000 in
theorem c_L_lend {l : Launch} (hfl : l.stackTraces = false) {g : PP} {N : Nat} {σ : Sto} {sz : Nat} {a0 : Nat} {v1 : Int64} {v3 : Int32} {v4 : Int64} {a6 : Nat} {r9 : Int32} {σ9 : Sto} {sz9 : Nat} (h : f_L_lend N σ sz a0 v1 v3 v4 a6 = some (r9, σ9, sz9)) : Met l yL_lend [Cond.codeWith yL_lend cL_lend 8 (some .int) [(0, 13, 16, 15), (0, 13, 20, 105), (0, 13, 24, 21)]] (rmk 14 1 6 300) (Pre g σ sz [.ref a0, .long v1, .int v3, .long v4, .ref a6]) (PstG g (vI r9) σ9 sz9) 1 6 (Aw g) := by
  refine va_MetW (hh := [(0, 13, 16, 15), (0, 13, 20, 105), (0, 13, 24, 21)]) (cc := cL_lend) (maxL := 8) (ret := (some .int)) (by decide) rfl ?_
  intro p e s m args below meth c s₁ B hml hv
  obtain ⟨rfl, C, hs⟩ := ctx_of B hml hv
  have C : Cx g p s m meth c cL_lend 8 "TillhouseLaw" := C
  have hr := B.returns
  have tb := vx_table (x := yL_lend) B (C.2.2.2.2.1.1 _ cw_L_lend _)
  have hl := lv_entry ([.ref a0, .long v1, .int v3, .long v4, .ref a6]) (n := 8) (Nat.le_of_ble_eq_true rfl)
  rw [lg_entry_eq]
  generalize (lg_sl ([.ref a0, .long v1, .int v3, .long v4, .ref a6]) ++ List.replicate (8 - (lg_sl ([.ref a0, .long v1, .int v3, .long v4, .ref a6])).length) Slot.unset).toArray = ls at hl ⊢
  have hl : lv_has ls 8 [(0, .ref a0), (1, .long v1), (3, .int v3), (4, .long v4), (6, .ref a6)] := hl
  unfold f_L_lend at h
  refine lv_aload C.1 C.2.1 dL_lend_0 (lv_at hl 4 rfl) ?_
  refine lv_iconst (v := 0) C.1 C.2.1 dL_lend_2 (by decide) ?_
  refine lv_aload_n C.1 C.2.1 dL_lend_3 rfl (lv_at hl 0 rfl) ?_
  refine lv_lload_n C.1 C.2.1 dL_lend_4 rfl (lv_at hl 1 rfl) ?_
  refine lv_iload_n C.1 C.2.1 dL_lend_5 rfl (lv_at hl 2 rfl) ?_
  refine lv_lload C.1 C.2.1 dL_lend_6 (lv_at hl 3 rfl) ?_
  replace h := ob h; obtain ⟨⟨⟩, i1, h⟩ := h
  replace h := ob2 h; obtain ⟨u4, τ3, ex2, h⟩ := h
  rcases u4 with j5 | x2
  · replace h := bsl h
    rcases Decidable.em (j5 = 1) with c6 | c6
    · replace h := ip c6 h
      subst c6
      cases h
      refine sx_xcallV (As := [.long v1, .int v3, .long v4]) (rest := [.int 0, .ref a6]) C hs (c_X11_lend hfl ex2) mo_X11_lend q1207 i1 rfl rfl hl.1 ⟨⟨(Nat.le_of_ble_eq_true rfl), (Nat.le_of_ble_eq_true rfl)⟩, (Nat.le_of_ble_eq_true rfl), (Nat.le_of_ble_eq_true rfl)⟩ rfl (Nat.le_of_ble_eq_true rfl) dL_lend_8 (fun k9 hk9 ce q9 H locs f1 f2 f3 f4 f5 f6 => ?_) (fun vr hv => (inlr hv).elim)
      obtain rfl := Sum.inl.inj hk9
      refine sx_catch (k := 1) (hp := []) (hs9 := [(0, 13, 20, 105), (0, 13, 24, 21)]) (a9 := 0) (b9 := 13) (h9 := 16) (d9 := 15) C tb (fun _ h => nomatch h) (by decide) (by decide) q419 f4 f5 f6 ?_
      refine lv_astore (lv' := [(7, .ref q9), (0, .ref a0), (1, .long v1), (3, .int v3), (4, .long v4), (6, .ref a6)]) C.1 C.2.1 dL_lend_16 hl (by decide) rfl (fun ls hl => ?_)
      refine lv_iconst (v := 1) C.1 C.2.1 dL_lend_18 (by decide) ?_
      refine W.widen (k := 1) (n := 6) (Nat.le_of_ble_eq_true rfl) (Nat.le_of_ble_eq_true rfl) ?_
      exact sx_iretK C f1 f2 f3 hr rfl dL_lend_19
    · replace h := iN c6 h
      rcases Decidable.em (j5 = 5) with c7 | c7
      · replace h := ip c7 h
        subst c7
        cases h
        refine sx_xcallV (As := [.long v1, .int v3, .long v4]) (rest := [.int 0, .ref a6]) C hs (c_X11_lend hfl ex2) mo_X11_lend q1207 i1 rfl rfl hl.1 ⟨⟨(Nat.le_of_ble_eq_true rfl), (Nat.le_of_ble_eq_true rfl)⟩, (Nat.le_of_ble_eq_true rfl), (Nat.le_of_ble_eq_true rfl)⟩ rfl (Nat.le_of_ble_eq_true rfl) dL_lend_8 (fun k9 hk9 ce q9 H locs f1 f2 f3 f4 f5 f6 => ?_) (fun vr hv => (inlr hv).elim)
        obtain rfl := Sum.inl.inj hk9
        refine sx_catch (k := 5) (hp := [(0, 13, 16, 15)]) (hs9 := [(0, 13, 24, 21)]) (a9 := 0) (b9 := 13) (h9 := 20) (d9 := 105) C tb (List.forall_mem_cons.mpr ⟨⟨by decide, 1, q419, by decide⟩, (fun _ h => nomatch h)⟩) (by decide) (by decide) q1031 f4 f5 f6 ?_
        refine lv_astore (lv' := [(7, .ref q9), (0, .ref a0), (1, .long v1), (3, .int v3), (4, .long v4), (6, .ref a6)]) C.1 C.2.1 dL_lend_20 hl (by decide) rfl (fun ls hl => ?_)
        refine lv_iconst (v := 2) C.1 C.2.1 dL_lend_22 (by decide) ?_
        refine W.widen (k := 1) (n := 6) (Nat.le_of_ble_eq_true rfl) (Nat.le_of_ble_eq_true rfl) ?_
        exact sx_iretK C f1 f2 f3 hr rfl dL_lend_23
      · replace h := iN c7 h
        rcases Decidable.em (j5 = 4) with c8 | c8
        · replace h := ip c8 h
          subst c8
          cases h
          refine sx_xcallV (As := [.long v1, .int v3, .long v4]) (rest := [.int 0, .ref a6]) C hs (c_X11_lend hfl ex2) mo_X11_lend q1207 i1 rfl rfl hl.1 ⟨⟨(Nat.le_of_ble_eq_true rfl), (Nat.le_of_ble_eq_true rfl)⟩, (Nat.le_of_ble_eq_true rfl), (Nat.le_of_ble_eq_true rfl)⟩ rfl (Nat.le_of_ble_eq_true rfl) dL_lend_8 (fun k9 hk9 ce q9 H locs f1 f2 f3 f4 f5 f6 => ?_) (fun vr hv => (inlr hv).elim)
          obtain rfl := Sum.inl.inj hk9
          refine sx_catch (k := 4) (hp := [(0, 13, 16, 15), (0, 13, 20, 105)]) (hs9 := []) (a9 := 0) (b9 := 13) (h9 := 24) (d9 := 21) C tb (List.forall_mem_cons.mpr ⟨⟨by decide, 1, q419, by decide⟩, (List.forall_mem_cons.mpr ⟨⟨by decide, 5, q1031, by decide⟩, (fun _ h => nomatch h)⟩)⟩) (by decide) (by decide) q494 f4 f5 f6 ?_
          refine lv_astore (lv' := [(7, .ref q9), (0, .ref a0), (1, .long v1), (3, .int v3), (4, .long v4), (6, .ref a6)]) C.1 C.2.1 dL_lend_24 hl (by decide) rfl (fun ls hl => ?_)
          refine lv_iconst (v := 3) C.1 C.2.1 dL_lend_26 (by decide) ?_
          refine W.widen (k := 1) (n := 6) (Nat.le_of_ble_eq_true rfl) (Nat.le_of_ble_eq_true rfl) ?_
          exact sx_iretK C f1 f2 f3 hr rfl dL_lend_27
        · replace h := iN c8 h
          cases h
  · replace h := bsr h
    refine sx_xcallV (As := [.long v1, .int v3, .long v4]) (rest := [.int 0, .ref a6]) C hs (c_X11_lend hfl ex2) mo_X11_lend q1207 i1 rfl rfl hl.1 ⟨⟨(Nat.le_of_ble_eq_true rfl), (Nat.le_of_ble_eq_true rfl)⟩, (Nat.le_of_ble_eq_true rfl), (Nat.le_of_ble_eq_true rfl)⟩ rfl (Nat.le_of_ble_eq_true rfl) dL_lend_8 (fun k9 hk9 => (inrl hk9).elim) (fun vr hv H locs hs => ?_)
    obtain rfl := Sum.inr.inj hv
    refine W.eq (g2 := F0 m 11 ls [.int x2, .int 0, .ref a6]) rfl ?_
    refine W.widen (k := 0) (n := 0) (Nat.le_of_ble_eq_true rfl) (Nat.le_of_ble_eq_true rfl) ?_
    refine lv_i2l (v := Int32.toInt64 x2) C.1 C.2.1 dL_lend_11 rfl ?_
    replace h := ob h; obtain ⟨τ9, eτ9, h⟩ := h
    refine sx_last C hs eτ9 dL_lend_12 (fun H locs hs => ?_)
    refine lv_goto (tgt := 28) C.1 C.2.1 dL_lend_13 (by decide) ?_
    refine lv_iconst (v := 0) C.1 C.2.1 dL_lend_28 (by decide) ?_
    cases h
    refine W.widen (k := 1) (n := 6) (Nat.le_of_ble_eq_true rfl) (Nat.le_of_ble_eq_true rfl) ?_
    exact sx_iretG C hs hr rfl dL_lend_29
def f_L_instalment (σ : Sto) (sz : Nat) (a0 : Nat) (v1 : Int32) (v2 : Int32) (a3 : Nat) : Option (Int32 × Sto × Nat) :=
 (isO σ a0 10).bind fun _ =>
 (f_X11_instalment σ a0 v1 v2).bind fun u3 =>
 bs u3 (fun j4 => if j4 = 1 then some (1, σ, sz) else if j4 = 2 then some (2, σ, sz) else none) fun x2 =>
 (sL σ a3 2 0 x2).bind fun τ7 =>
 some (0, τ7, sz)
set_option maxHeartbeats 4000000 in
set_option maxRecDepth 100000 in
theorem c_L_instalment {l : Launch} (hfl : l.stackTraces = false) {g : PP} {σ : Sto} {sz : Nat} {a0 : Nat} {v1 : Int32} {v2 : Int32} {a3 : Nat} {r9 : Int32} {σ9 : Sto} {sz9 : Nat} (h : f_L_instalment σ sz a0 v1 v2 a3 = some (r9, σ9, sz9)) : Met l yL_instalment [Cond.codeWith yL_instalment cL_instalment 5 (some .int) [(0, 9, 12, 15), (0, 9, 16, 33)]] (rmk 7 1 6 122) (Pre g σ sz [.ref a0, .int v1, .int v2, .ref a3]) (PstG g (vI r9) σ9 sz9) 1 6 (Aw g) := by
  refine va_MetW (hh := [(0, 9, 12, 15), (0, 9, 16, 33)]) (cc := cL_instalment) (maxL := 5) (ret := (some .int)) (by decide) rfl ?_
  intro p e s m args below meth c s₁ B hml hv
  obtain ⟨rfl, C, hs⟩ := ctx_of B hml hv
  have C : Cx g p s m meth c cL_instalment 5 "TillhouseLaw" := C
  have hr := B.returns
  have tb := vx_table (x := yL_instalment) B (C.2.2.2.2.1.1 _ cw_L_instalment _)
  have hl := lv_entry ([.ref a0, .int v1, .int v2, .ref a3]) (n := 5) (Nat.le_of_ble_eq_true rfl)
  rw [lg_entry_eq]
  generalize (lg_sl ([.ref a0, .int v1, .int v2, .ref a3]) ++ List.replicate (5 - (lg_sl ([.ref a0, .int v1, .int v2, .ref a3])).length) Slot.unset).toArray = ls at hl ⊢
  have hl : lv_has ls 5 [(0, .ref a0), (1, .int v1), (2, .int v2), (3, .ref a3)] := hl
  unfold f_L_instalment at h
  refine lv_aload_n C.1 C.2.1 dL_instalment_0 rfl (lv_at hl 3 rfl) ?_
  refine lv_iconst (v := 0) C.1 C.2.1 dL_instalment_1 (by decide) ?_
  refine lv_aload_n C.1 C.2.1 dL_instalment_2 rfl (lv_at hl 0 rfl) ?_
  refine lv_iload_n C.1 C.2.1 dL_instalment_3 rfl (lv_at hl 1 rfl) ?_
  refine lv_iload_n C.1 C.2.1 dL_instalment_4 rfl (lv_at hl 2 rfl) ?_
  replace h := ob h; obtain ⟨⟨⟩, i1, h⟩ := h
  replace h := ob h; obtain ⟨u3, ex2, h⟩ := h
  rcases u3 with j4 | x2
  · replace h := bsl h
    rcases Decidable.em (j4 = 1) with c5 | c5
    · replace h := ip c5 h
      subst c5
      cases h
      refine sx_xcallV (As := [.int v1, .int v2]) (rest := [.int 0, .ref a3]) C hs (c_X11_instalment hfl ex2) mo_X11_instalment q1235 i1 rfl rfl hl.1 ⟨⟨(Nat.le_of_ble_eq_true rfl), (Nat.le_of_ble_eq_true rfl)⟩, (Nat.le_of_ble_eq_true rfl), (Nat.le_of_ble_eq_true rfl)⟩ rfl (Nat.le_of_ble_eq_true rfl) dL_instalment_5 (fun k9 hk9 ce q9 H locs f1 f2 f3 f4 f5 f6 => ?_) (fun vr hv => (inlr hv).elim)
      obtain rfl := Sum.inl.inj hk9
      refine sx_catch (k := 1) (hp := []) (hs9 := [(0, 9, 16, 33)]) (a9 := 0) (b9 := 9) (h9 := 12) (d9 := 15) C tb (fun _ h => nomatch h) (by decide) (by decide) q419 f4 f5 f6 ?_
      refine lv_astore (lv' := [(4, .ref q9), (0, .ref a0), (1, .int v1), (2, .int v2), (3, .ref a3)]) C.1 C.2.1 dL_instalment_12 hl (by decide) rfl (fun ls hl => ?_)
      refine lv_iconst (v := 1) C.1 C.2.1 dL_instalment_14 (by decide) ?_
      refine W.widen (k := 1) (n := 6) (Nat.le_of_ble_eq_true rfl) (Nat.le_of_ble_eq_true rfl) ?_
      exact sx_iretK C f1 f2 f3 hr rfl dL_instalment_15
    · replace h := iN c5 h
      rcases Decidable.em (j4 = 2) with c6 | c6
      · replace h := ip c6 h
        subst c6
        cases h
        refine sx_xcallV (As := [.int v1, .int v2]) (rest := [.int 0, .ref a3]) C hs (c_X11_instalment hfl ex2) mo_X11_instalment q1235 i1 rfl rfl hl.1 ⟨⟨(Nat.le_of_ble_eq_true rfl), (Nat.le_of_ble_eq_true rfl)⟩, (Nat.le_of_ble_eq_true rfl), (Nat.le_of_ble_eq_true rfl)⟩ rfl (Nat.le_of_ble_eq_true rfl) dL_instalment_5 (fun k9 hk9 ce q9 H locs f1 f2 f3 f4 f5 f6 => ?_) (fun vr hv => (inlr hv).elim)
        obtain rfl := Sum.inl.inj hk9
        refine sx_catch (k := 2) (hp := [(0, 9, 12, 15)]) (hs9 := []) (a9 := 0) (b9 := 9) (h9 := 16) (d9 := 33) C tb (List.forall_mem_cons.mpr ⟨⟨by decide, 1, q419, by decide⟩, (fun _ h => nomatch h)⟩) (by decide) (by decide) q569 f4 f5 f6 ?_
        refine lv_astore (lv' := [(4, .ref q9), (0, .ref a0), (1, .int v1), (2, .int v2), (3, .ref a3)]) C.1 C.2.1 dL_instalment_16 hl (by decide) rfl (fun ls hl => ?_)
        refine lv_iconst (v := 2) C.1 C.2.1 dL_instalment_18 (by decide) ?_
        refine W.widen (k := 1) (n := 6) (Nat.le_of_ble_eq_true rfl) (Nat.le_of_ble_eq_true rfl) ?_
        exact sx_iretK C f1 f2 f3 hr rfl dL_instalment_19
      · replace h := iN c6 h
        cases h
  · replace h := bsr h
    refine sx_xcallV (As := [.int v1, .int v2]) (rest := [.int 0, .ref a3]) C hs (c_X11_instalment hfl ex2) mo_X11_instalment q1235 i1 rfl rfl hl.1 ⟨⟨(Nat.le_of_ble_eq_true rfl), (Nat.le_of_ble_eq_true rfl)⟩, (Nat.le_of_ble_eq_true rfl), (Nat.le_of_ble_eq_true rfl)⟩ rfl (Nat.le_of_ble_eq_true rfl) dL_instalment_5 (fun k9 hk9 => (inrl hk9).elim) (fun vr hv H locs hs => ?_)
    obtain rfl := Sum.inr.inj hv
    refine W.eq (g2 := F0 m 8 ls [.long x2, .int 0, .ref a3]) rfl ?_
    refine W.widen (k := 0) (n := 0) (Nat.le_of_ble_eq_true rfl) (Nat.le_of_ble_eq_true rfl) ?_
    replace h := ob h; obtain ⟨τ7, eτ7, h⟩ := h
    refine sx_last C hs eτ7 dL_instalment_8 (fun H locs hs => ?_)
    refine lv_goto (tgt := 20) C.1 C.2.1 dL_instalment_9 (by decide) ?_
    refine lv_iconst (v := 0) C.1 C.2.1 dL_instalment_20 (by decide) ?_
    cases h
    refine W.widen (k := 1) (n := 6) (Nat.le_of_ble_eq_true rfl) (Nat.le_of_ble_eq_true rfl) ?_
    exact sx_iretG C hs hr rfl dL_instalment_21
def f_L_post (σ : Sto) (sz : Nat) (a0 : Nat) (v1 : Int32) (v2 : Int32) (v3 : Int32) (v4 : Int64) (a6 : Nat) : Option (Int32 × Sto × Nat) :=
 (isO σ a0 10).bind fun _ =>
 b2 (f_X11_post σ a0 v1 v2 v3 v4) fun u4 τ3 =>
 bs u4 (fun j5 => if j5 = 0 then some (1, τ3, sz) else if j5 = 1 then some (2, τ3, sz) else if j5 = 5 then some (3, τ3, sz) else if j5 = 4 then some (4, τ3, sz) else none) fun x2 =>
 (sL τ3 a6 2 0 (Int32.toInt64 x2)).bind fun τ10 =>
 some (0, τ10, sz)
set_option maxHeartbeats 4000000 in
set_option maxRecDepth 100000 in
theorem c_L_post {l : Launch} (hfl : l.stackTraces = false) {g : PP} {σ : Sto} {sz : Nat} {a0 : Nat} {v1 : Int32} {v2 : Int32} {v3 : Int32} {v4 : Int64} {a6 : Nat} {r9 : Int32} {σ9 : Sto} {sz9 : Nat} (h : f_L_post σ sz a0 v1 v2 v3 v4 a6 = some (r9, σ9, sz9)) : Met l yL_post [Cond.codeWith yL_post cL_post 8 (some .int) [(0, 14, 17, 13), (0, 14, 21, 15), (0, 14, 25, 105), (0, 14, 29, 21)]] (rmk 8 1 6 150) (Pre g σ sz [.ref a0, .int v1, .int v2, .int v3, .long v4, .ref a6]) (PstG g (vI r9) σ9 sz9) 1 6 (Aw g) := by
  refine va_MetW (hh := [(0, 14, 17, 13), (0, 14, 21, 15), (0, 14, 25, 105), (0, 14, 29, 21)]) (cc := cL_post) (maxL := 8) (ret := (some .int)) (by decide) rfl ?_
  intro p e s m args below meth c s₁ B hml hv
  obtain ⟨rfl, C, hs⟩ := ctx_of B hml hv
  have C : Cx g p s m meth c cL_post 8 "TillhouseLaw" := C
  have hr := B.returns
  have tb := vx_table (x := yL_post) B (C.2.2.2.2.1.1 _ cw_L_post _)
  have hl := lv_entry ([.ref a0, .int v1, .int v2, .int v3, .long v4, .ref a6]) (n := 8) (Nat.le_of_ble_eq_true rfl)
  rw [lg_entry_eq]
  generalize (lg_sl ([.ref a0, .int v1, .int v2, .int v3, .long v4, .ref a6]) ++ List.replicate (8 - (lg_sl ([.ref a0, .int v1, .int v2, .int v3, .long v4, .ref a6])).length) Slot.unset).toArray = ls at hl ⊢
  have hl : lv_has ls 8 [(0, .ref a0), (1, .int v1), (2, .int v2), (3, .int v3), (4, .long v4), (6, .ref a6)] := hl
  unfold f_L_post at h
  refine lv_aload C.1 C.2.1 dL_post_0 (lv_at hl 5 rfl) ?_
  refine lv_iconst (v := 0) C.1 C.2.1 dL_post_2 (by decide) ?_
  refine lv_aload_n C.1 C.2.1 dL_post_3 rfl (lv_at hl 0 rfl) ?_
  refine lv_iload_n C.1 C.2.1 dL_post_4 rfl (lv_at hl 1 rfl) ?_
  refine lv_iload_n C.1 C.2.1 dL_post_5 rfl (lv_at hl 2 rfl) ?_
  refine lv_iload_n C.1 C.2.1 dL_post_6 rfl (lv_at hl 3 rfl) ?_
  refine lv_lload C.1 C.2.1 dL_post_7 (lv_at hl 4 rfl) ?_
  replace h := ob h; obtain ⟨⟨⟩, i1, h⟩ := h
  replace h := ob2 h; obtain ⟨u4, τ3, ex2, h⟩ := h
  rcases u4 with j5 | x2
  · replace h := bsl h
    rcases Decidable.em (j5 = 0) with c6 | c6
    · replace h := ip c6 h
      subst c6
      cases h
      refine sx_xcallV (As := [.int v1, .int v2, .int v3, .long v4]) (rest := [.int 0, .ref a6]) C hs (c_X11_post hfl ex2) mo_X11_post q1244 i1 rfl rfl hl.1 ⟨⟨(Nat.le_of_ble_eq_true rfl), (Nat.le_of_ble_eq_true rfl)⟩, (Nat.le_of_ble_eq_true rfl), (Nat.le_of_ble_eq_true rfl)⟩ rfl (Nat.le_of_ble_eq_true rfl) dL_post_9 (fun k9 hk9 ce q9 H locs f1 f2 f3 f4 f5 f6 => ?_) (fun vr hv => (inlr hv).elim)
      obtain rfl := Sum.inl.inj hk9
      refine sx_catch (k := 0) (hp := []) (hs9 := [(0, 14, 21, 15), (0, 14, 25, 105), (0, 14, 29, 21)]) (a9 := 0) (b9 := 14) (h9 := 17) (d9 := 13) C tb (fun _ h => nomatch h) (by decide) (by decide) q339 f4 f5 f6 ?_
      refine lv_astore (lv' := [(7, .ref q9), (0, .ref a0), (1, .int v1), (2, .int v2), (3, .int v3), (4, .long v4), (6, .ref a6)]) C.1 C.2.1 dL_post_17 hl (by decide) rfl (fun ls hl => ?_)
      refine lv_iconst (v := 1) C.1 C.2.1 dL_post_19 (by decide) ?_
      refine W.widen (k := 1) (n := 6) (Nat.le_of_ble_eq_true rfl) (Nat.le_of_ble_eq_true rfl) ?_
      exact sx_iretK C f1 f2 f3 hr rfl dL_post_20
    · replace h := iN c6 h
      rcases Decidable.em (j5 = 1) with c7 | c7
      · replace h := ip c7 h
        subst c7
        cases h
        refine sx_xcallV (As := [.int v1, .int v2, .int v3, .long v4]) (rest := [.int 0, .ref a6]) C hs (c_X11_post hfl ex2) mo_X11_post q1244 i1 rfl rfl hl.1 ⟨⟨(Nat.le_of_ble_eq_true rfl), (Nat.le_of_ble_eq_true rfl)⟩, (Nat.le_of_ble_eq_true rfl), (Nat.le_of_ble_eq_true rfl)⟩ rfl (Nat.le_of_ble_eq_true rfl) dL_post_9 (fun k9 hk9 ce q9 H locs f1 f2 f3 f4 f5 f6 => ?_) (fun vr hv => (inlr hv).elim)
        obtain rfl := Sum.inl.inj hk9
        refine sx_catch (k := 1) (hp := [(0, 14, 17, 13)]) (hs9 := [(0, 14, 25, 105), (0, 14, 29, 21)]) (a9 := 0) (b9 := 14) (h9 := 21) (d9 := 15) C tb (List.forall_mem_cons.mpr ⟨⟨by decide, 0, q339, by decide⟩, (fun _ h => nomatch h)⟩) (by decide) (by decide) q419 f4 f5 f6 ?_
        refine lv_astore (lv' := [(7, .ref q9), (0, .ref a0), (1, .int v1), (2, .int v2), (3, .int v3), (4, .long v4), (6, .ref a6)]) C.1 C.2.1 dL_post_21 hl (by decide) rfl (fun ls hl => ?_)
        refine lv_iconst (v := 2) C.1 C.2.1 dL_post_23 (by decide) ?_
        refine W.widen (k := 1) (n := 6) (Nat.le_of_ble_eq_true rfl) (Nat.le_of_ble_eq_true rfl) ?_
        exact sx_iretK C f1 f2 f3 hr rfl dL_post_24
      · replace h := iN c7 h
        rcases Decidable.em (j5 = 5) with c8 | c8
        · replace h := ip c8 h
          subst c8
          cases h
          refine sx_xcallV (As := [.int v1, .int v2, .int v3, .long v4]) (rest := [.int 0, .ref a6]) C hs (c_X11_post hfl ex2) mo_X11_post q1244 i1 rfl rfl hl.1 ⟨⟨(Nat.le_of_ble_eq_true rfl), (Nat.le_of_ble_eq_true rfl)⟩, (Nat.le_of_ble_eq_true rfl), (Nat.le_of_ble_eq_true rfl)⟩ rfl (Nat.le_of_ble_eq_true rfl) dL_post_9 (fun k9 hk9 ce q9 H locs f1 f2 f3 f4 f5 f6 => ?_) (fun vr hv => (inlr hv).elim)
          obtain rfl := Sum.inl.inj hk9
          refine sx_catch (k := 5) (hp := [(0, 14, 17, 13), (0, 14, 21, 15)]) (hs9 := [(0, 14, 29, 21)]) (a9 := 0) (b9 := 14) (h9 := 25) (d9 := 105) C tb (List.forall_mem_cons.mpr ⟨⟨by decide, 0, q339, by decide⟩, (List.forall_mem_cons.mpr ⟨⟨by decide, 1, q419, by decide⟩, (fun _ h => nomatch h)⟩)⟩) (by decide) (by decide) q1031 f4 f5 f6 ?_
          refine lv_astore (lv' := [(7, .ref q9), (0, .ref a0), (1, .int v1), (2, .int v2), (3, .int v3), (4, .long v4), (6, .ref a6)]) C.1 C.2.1 dL_post_25 hl (by decide) rfl (fun ls hl => ?_)
          refine lv_iconst (v := 3) C.1 C.2.1 dL_post_27 (by decide) ?_
          refine W.widen (k := 1) (n := 6) (Nat.le_of_ble_eq_true rfl) (Nat.le_of_ble_eq_true rfl) ?_
          exact sx_iretK C f1 f2 f3 hr rfl dL_post_28
        · replace h := iN c8 h
          rcases Decidable.em (j5 = 4) with c9 | c9
          · replace h := ip c9 h
            subst c9
            cases h
            refine sx_xcallV (As := [.int v1, .int v2, .int v3, .long v4]) (rest := [.int 0, .ref a6]) C hs (c_X11_post hfl ex2) mo_X11_post q1244 i1 rfl rfl hl.1 ⟨⟨(Nat.le_of_ble_eq_true rfl), (Nat.le_of_ble_eq_true rfl)⟩, (Nat.le_of_ble_eq_true rfl), (Nat.le_of_ble_eq_true rfl)⟩ rfl (Nat.le_of_ble_eq_true rfl) dL_post_9 (fun k9 hk9 ce q9 H locs f1 f2 f3 f4 f5 f6 => ?_) (fun vr hv => (inlr hv).elim)
            obtain rfl := Sum.inl.inj hk9
            refine sx_catch (k := 4) (hp := [(0, 14, 17, 13), (0, 14, 21, 15), (0, 14, 25, 105)]) (hs9 := []) (a9 := 0) (b9 := 14) (h9 := 29) (d9 := 21) C tb (List.forall_mem_cons.mpr ⟨⟨by decide, 0, q339, by decide⟩, (List.forall_mem_cons.mpr ⟨⟨by decide, 1, q419, by decide⟩, (List.forall_mem_cons.mpr ⟨⟨by decide, 5, q1031, by decide⟩, (fun _ h => nomatch h)⟩)⟩)⟩) (by decide) (by decide) q494 f4 f5 f6 ?_
            refine lv_astore (lv' := [(7, .ref q9), (0, .ref a0), (1, .int v1), (2, .int v2), (3, .int v3), (4, .long v4), (6, .ref a6)]) C.1 C.2.1 dL_post_29 hl (by decide) rfl (fun ls hl => ?_)
            refine lv_iconst (v := 4) C.1 C.2.1 dL_post_31 (by decide) ?_
            refine W.widen (k := 1) (n := 6) (Nat.le_of_ble_eq_true rfl) (Nat.le_of_ble_eq_true rfl) ?_
            exact sx_iretK C f1 f2 f3 hr rfl dL_post_32
          · replace h := iN c9 h
            cases h
  · replace h := bsr h
    refine sx_xcallV (As := [.int v1, .int v2, .int v3, .long v4]) (rest := [.int 0, .ref a6]) C hs (c_X11_post hfl ex2) mo_X11_post q1244 i1 rfl rfl hl.1 ⟨⟨(Nat.le_of_ble_eq_true rfl), (Nat.le_of_ble_eq_true rfl)⟩, (Nat.le_of_ble_eq_true rfl), (Nat.le_of_ble_eq_true rfl)⟩ rfl (Nat.le_of_ble_eq_true rfl) dL_post_9 (fun k9 hk9 => (inrl hk9).elim) (fun vr hv H locs hs => ?_)
    obtain rfl := Sum.inr.inj hv
    refine W.eq (g2 := F0 m 12 ls [.int x2, .int 0, .ref a6]) rfl ?_
    refine W.widen (k := 0) (n := 0) (Nat.le_of_ble_eq_true rfl) (Nat.le_of_ble_eq_true rfl) ?_
    refine lv_i2l (v := Int32.toInt64 x2) C.1 C.2.1 dL_post_12 rfl ?_
    replace h := ob h; obtain ⟨τ10, eτ10, h⟩ := h
    refine sx_last C hs eτ10 dL_post_13 (fun H locs hs => ?_)
    refine lv_goto (tgt := 33) C.1 C.2.1 dL_post_14 (by decide) ?_
    refine lv_iconst (v := 0) C.1 C.2.1 dL_post_33 (by decide) ?_
    cases h
    refine W.widen (k := 1) (n := 6) (Nat.le_of_ble_eq_true rfl) (Nat.le_of_ble_eq_true rfl) ?_
    exact sx_iretG C hs hr rfl dL_post_34
def f_L_book (N : Nat) (σ : Sto) (sz : Nat) (a0 : Nat) (v1 : Int32) (a2 : Nat) : Option (Int32 × Sto × Nat) :=
 (isO σ a0 10).bind fun _ =>
 b3 (f_X11_book N σ sz a0 v1) fun u5 τ3 y4 =>
 bs u5 (fun j6 => if j6 = 0 then some (1, τ3, y4) else if j6 = 5 then some (2, τ3, y4) else if j6 = 2 then some (3, τ3, y4) else if j6 = 3 then some (4, τ3, y4) else if j6 = 4 then some (5, τ3, y4) else none) fun x2 =>
 (sL τ3 a2 2 0 (Int32.toInt64 x2)).bind fun τ12 =>
 some (0, τ12, y4)
set_option maxHeartbeats 4000000 in
set_option maxRecDepth 100000 in
theorem c_L_book {l : Launch} (hfl : l.stackTraces = false) {g : PP} {N : Nat} {σ : Sto} {sz : Nat} {a0 : Nat} {v1 : Int32} {a2 : Nat} {r9 : Int32} {σ9 : Sto} {sz9 : Nat} (h : f_L_book N σ sz a0 v1 a2 = some (r9, σ9, sz9)) : Met l yL_book [Cond.codeWith yL_book cL_book 4 (some .int) [(0, 9, 12, 13), (0, 9, 15, 105), (0, 9, 18, 33), (0, 9, 21, 27), (0, 9, 24, 21)]] (rmk 14 5 22 297) (Pre g σ sz [.ref a0, .int v1, .ref a2]) (PstG g (vI r9) σ9 sz9) 5 22 (Aw g) := by
  refine va_MetW (hh := [(0, 9, 12, 13), (0, 9, 15, 105), (0, 9, 18, 33), (0, 9, 21, 27), (0, 9, 24, 21)]) (cc := cL_book) (maxL := 4) (ret := (some .int)) (by decide) rfl ?_
  intro p e s m args below meth c s₁ B hml hv
  obtain ⟨rfl, C, hs⟩ := ctx_of B hml hv
  have C : Cx g p s m meth c cL_book 4 "TillhouseLaw" := C
  have hr := B.returns
  have tb := vx_table (x := yL_book) B (C.2.2.2.2.1.1 _ cw_L_book _)
  have hl := lv_entry ([.ref a0, .int v1, .ref a2]) (n := 4) (Nat.le_of_ble_eq_true rfl)
  rw [lg_entry_eq]
  generalize (lg_sl ([.ref a0, .int v1, .ref a2]) ++ List.replicate (4 - (lg_sl ([.ref a0, .int v1, .ref a2])).length) Slot.unset).toArray = ls at hl ⊢
  have hl : lv_has ls 4 [(0, .ref a0), (1, .int v1), (2, .ref a2)] := hl
  unfold f_L_book at h
  refine lv_aload_n C.1 C.2.1 dL_book_0 rfl (lv_at hl 2 rfl) ?_
  refine lv_iconst (v := 0) C.1 C.2.1 dL_book_1 (by decide) ?_
  refine lv_aload_n C.1 C.2.1 dL_book_2 rfl (lv_at hl 0 rfl) ?_
  refine lv_iload_n C.1 C.2.1 dL_book_3 rfl (lv_at hl 1 rfl) ?_
  replace h := ob h; obtain ⟨⟨⟩, i1, h⟩ := h
  replace h := ob3 h; obtain ⟨u5, τ3, y4, ex2, h⟩ := h
  rcases u5 with j6 | x2
  · replace h := bsl h
    rcases Decidable.em (j6 = 0) with c7 | c7
    · replace h := ip c7 h
      subst c7
      cases h
      refine sx_xcallV (As := [.int v1]) (rest := [.int 0, .ref a2]) C hs (c_X11_book hfl ex2) mo_X11_book q1281 i1 rfl rfl hl.1 ⟨⟨(Nat.le_of_ble_eq_true rfl), (Nat.le_of_ble_eq_true rfl)⟩, (Nat.le_of_ble_eq_true rfl), (Nat.le_of_ble_eq_true rfl)⟩ rfl (Nat.le_of_ble_eq_true rfl) dL_book_4 (fun k9 hk9 ce q9 H locs f1 f2 f3 f4 f5 f6 => ?_) (fun vr hv => (inlr hv).elim)
      obtain rfl := Sum.inl.inj hk9
      refine sx_catch (k := 0) (hp := []) (hs9 := [(0, 9, 15, 105), (0, 9, 18, 33), (0, 9, 21, 27), (0, 9, 24, 21)]) (a9 := 0) (b9 := 9) (h9 := 12) (d9 := 13) C tb (fun _ h => nomatch h) (by decide) (by decide) q339 f4 f5 f6 ?_
      refine lv_astore_n (lv' := [(3, .ref q9), (0, .ref a0), (1, .int v1), (2, .ref a2)]) C.1 C.2.1 dL_book_12 rfl hl (by decide) rfl (fun ls hl => ?_)
      refine lv_iconst (v := 1) C.1 C.2.1 dL_book_13 (by decide) ?_
      refine W.widen (k := 5) (n := 22) (Nat.le_of_ble_eq_true rfl) (Nat.le_of_ble_eq_true rfl) ?_
      exact sx_iretK C f1 f2 f3 hr rfl dL_book_14
    · replace h := iN c7 h
      rcases Decidable.em (j6 = 5) with c8 | c8
      · replace h := ip c8 h
        subst c8
        cases h
        refine sx_xcallV (As := [.int v1]) (rest := [.int 0, .ref a2]) C hs (c_X11_book hfl ex2) mo_X11_book q1281 i1 rfl rfl hl.1 ⟨⟨(Nat.le_of_ble_eq_true rfl), (Nat.le_of_ble_eq_true rfl)⟩, (Nat.le_of_ble_eq_true rfl), (Nat.le_of_ble_eq_true rfl)⟩ rfl (Nat.le_of_ble_eq_true rfl) dL_book_4 (fun k9 hk9 ce q9 H locs f1 f2 f3 f4 f5 f6 => ?_) (fun vr hv => (inlr hv).elim)
        obtain rfl := Sum.inl.inj hk9
        refine sx_catch (k := 5) (hp := [(0, 9, 12, 13)]) (hs9 := [(0, 9, 18, 33), (0, 9, 21, 27), (0, 9, 24, 21)]) (a9 := 0) (b9 := 9) (h9 := 15) (d9 := 105) C tb (List.forall_mem_cons.mpr ⟨⟨by decide, 0, q339, by decide⟩, (fun _ h => nomatch h)⟩) (by decide) (by decide) q1031 f4 f5 f6 ?_
        refine lv_astore_n (lv' := [(3, .ref q9), (0, .ref a0), (1, .int v1), (2, .ref a2)]) C.1 C.2.1 dL_book_15 rfl hl (by decide) rfl (fun ls hl => ?_)
        refine lv_iconst (v := 2) C.1 C.2.1 dL_book_16 (by decide) ?_
        refine W.widen (k := 5) (n := 22) (Nat.le_of_ble_eq_true rfl) (Nat.le_of_ble_eq_true rfl) ?_
        exact sx_iretK C f1 f2 f3 hr rfl dL_book_17
      · replace h := iN c8 h
        rcases Decidable.em (j6 = 2) with c9 | c9
        · replace h := ip c9 h
          subst c9
          cases h
          refine sx_xcallV (As := [.int v1]) (rest := [.int 0, .ref a2]) C hs (c_X11_book hfl ex2) mo_X11_book q1281 i1 rfl rfl hl.1 ⟨⟨(Nat.le_of_ble_eq_true rfl), (Nat.le_of_ble_eq_true rfl)⟩, (Nat.le_of_ble_eq_true rfl), (Nat.le_of_ble_eq_true rfl)⟩ rfl (Nat.le_of_ble_eq_true rfl) dL_book_4 (fun k9 hk9 ce q9 H locs f1 f2 f3 f4 f5 f6 => ?_) (fun vr hv => (inlr hv).elim)
          obtain rfl := Sum.inl.inj hk9
          refine sx_catch (k := 2) (hp := [(0, 9, 12, 13), (0, 9, 15, 105)]) (hs9 := [(0, 9, 21, 27), (0, 9, 24, 21)]) (a9 := 0) (b9 := 9) (h9 := 18) (d9 := 33) C tb (List.forall_mem_cons.mpr ⟨⟨by decide, 0, q339, by decide⟩, (List.forall_mem_cons.mpr ⟨⟨by decide, 5, q1031, by decide⟩, (fun _ h => nomatch h)⟩)⟩) (by decide) (by decide) q569 f4 f5 f6 ?_
          refine lv_astore_n (lv' := [(3, .ref q9), (0, .ref a0), (1, .int v1), (2, .ref a2)]) C.1 C.2.1 dL_book_18 rfl hl (by decide) rfl (fun ls hl => ?_)
          refine lv_iconst (v := 3) C.1 C.2.1 dL_book_19 (by decide) ?_
          refine W.widen (k := 5) (n := 22) (Nat.le_of_ble_eq_true rfl) (Nat.le_of_ble_eq_true rfl) ?_
          exact sx_iretK C f1 f2 f3 hr rfl dL_book_20
        · replace h := iN c9 h
          rcases Decidable.em (j6 = 3) with c10 | c10
          · replace h := ip c10 h
            subst c10
            cases h
            refine sx_xcallV (As := [.int v1]) (rest := [.int 0, .ref a2]) C hs (c_X11_book hfl ex2) mo_X11_book q1281 i1 rfl rfl hl.1 ⟨⟨(Nat.le_of_ble_eq_true rfl), (Nat.le_of_ble_eq_true rfl)⟩, (Nat.le_of_ble_eq_true rfl), (Nat.le_of_ble_eq_true rfl)⟩ rfl (Nat.le_of_ble_eq_true rfl) dL_book_4 (fun k9 hk9 ce q9 H locs f1 f2 f3 f4 f5 f6 => ?_) (fun vr hv => (inlr hv).elim)
            obtain rfl := Sum.inl.inj hk9
            refine sx_catch (k := 3) (hp := [(0, 9, 12, 13), (0, 9, 15, 105), (0, 9, 18, 33)]) (hs9 := [(0, 9, 24, 21)]) (a9 := 0) (b9 := 9) (h9 := 21) (d9 := 27) C tb (List.forall_mem_cons.mpr ⟨⟨by decide, 0, q339, by decide⟩, (List.forall_mem_cons.mpr ⟨⟨by decide, 5, q1031, by decide⟩, (List.forall_mem_cons.mpr ⟨⟨by decide, 2, q569, by decide⟩, (fun _ h => nomatch h)⟩)⟩)⟩) (by decide) (by decide) q526 f4 f5 f6 ?_
            refine lv_astore_n (lv' := [(3, .ref q9), (0, .ref a0), (1, .int v1), (2, .ref a2)]) C.1 C.2.1 dL_book_21 rfl hl (by decide) rfl (fun ls hl => ?_)
            refine lv_iconst (v := 4) C.1 C.2.1 dL_book_22 (by decide) ?_
            refine W.widen (k := 5) (n := 22) (Nat.le_of_ble_eq_true rfl) (Nat.le_of_ble_eq_true rfl) ?_
            exact sx_iretK C f1 f2 f3 hr rfl dL_book_23
          · replace h := iN c10 h
            rcases Decidable.em (j6 = 4) with c11 | c11
            · replace h := ip c11 h
              subst c11
              cases h
              refine sx_xcallV (As := [.int v1]) (rest := [.int 0, .ref a2]) C hs (c_X11_book hfl ex2) mo_X11_book q1281 i1 rfl rfl hl.1 ⟨⟨(Nat.le_of_ble_eq_true rfl), (Nat.le_of_ble_eq_true rfl)⟩, (Nat.le_of_ble_eq_true rfl), (Nat.le_of_ble_eq_true rfl)⟩ rfl (Nat.le_of_ble_eq_true rfl) dL_book_4 (fun k9 hk9 ce q9 H locs f1 f2 f3 f4 f5 f6 => ?_) (fun vr hv => (inlr hv).elim)
              obtain rfl := Sum.inl.inj hk9
              refine sx_catch (k := 4) (hp := [(0, 9, 12, 13), (0, 9, 15, 105), (0, 9, 18, 33), (0, 9, 21, 27)]) (hs9 := []) (a9 := 0) (b9 := 9) (h9 := 24) (d9 := 21) C tb (List.forall_mem_cons.mpr ⟨⟨by decide, 0, q339, by decide⟩, (List.forall_mem_cons.mpr ⟨⟨by decide, 5, q1031, by decide⟩, (List.forall_mem_cons.mpr ⟨⟨by decide, 2, q569, by decide⟩, (List.forall_mem_cons.mpr ⟨⟨by decide, 3, q526, by decide⟩, (fun _ h => nomatch h)⟩)⟩)⟩)⟩) (by decide) (by decide) q494 f4 f5 f6 ?_
              refine lv_astore_n (lv' := [(3, .ref q9), (0, .ref a0), (1, .int v1), (2, .ref a2)]) C.1 C.2.1 dL_book_24 rfl hl (by decide) rfl (fun ls hl => ?_)
              refine lv_iconst (v := 5) C.1 C.2.1 dL_book_25 (by decide) ?_
              refine W.widen (k := 5) (n := 22) (Nat.le_of_ble_eq_true rfl) (Nat.le_of_ble_eq_true rfl) ?_
              exact sx_iretK C f1 f2 f3 hr rfl dL_book_26
            · replace h := iN c11 h
              cases h
  · replace h := bsr h
    refine sx_xcallV (As := [.int v1]) (rest := [.int 0, .ref a2]) C hs (c_X11_book hfl ex2) mo_X11_book q1281 i1 rfl rfl hl.1 ⟨⟨(Nat.le_of_ble_eq_true rfl), (Nat.le_of_ble_eq_true rfl)⟩, (Nat.le_of_ble_eq_true rfl), (Nat.le_of_ble_eq_true rfl)⟩ rfl (Nat.le_of_ble_eq_true rfl) dL_book_4 (fun k9 hk9 => (inrl hk9).elim) (fun vr hv H locs hs => ?_)
    obtain rfl := Sum.inr.inj hv
    refine W.eq (g2 := F0 m 7 ls [.int x2, .int 0, .ref a2]) rfl ?_
    refine W.widen (k := 5) (n := 22) (Nat.le_of_ble_eq_true rfl) (Nat.le_of_ble_eq_true rfl) ?_
    refine lv_i2l (v := Int32.toInt64 x2) C.1 C.2.1 dL_book_7 rfl ?_
    replace h := ob h; obtain ⟨τ12, eτ12, h⟩ := h
    refine sx_last C hs eτ12 dL_book_8 (fun H locs hs => ?_)
    refine lv_goto (tgt := 27) C.1 C.2.1 dL_book_9 (by decide) ?_
    refine lv_iconst (v := 0) C.1 C.2.1 dL_book_27 (by decide) ?_
    cases h
    exact sx_iretG C hs hr rfl dL_book_28
def f_L_isBooked (N : Nat) (σ : Sto) (sz : Nat) (a0 : Nat) (v1 : Int32) (a2 : Nat) : Option (Int32 × Sto × Nat) :=
 (isO σ a0 10).bind fun _ =>
 (f_X11_isBooked N σ a0 v1).bind fun u3 =>
 bs u3 (fun j4 => if j4 = 0 then some (1, σ, sz) else none) fun x2 =>
 if x2 = 0 then
 (sL σ a2 2 0 0).bind fun τ7 =>
 some (0, τ7, sz)
 else
 (sL σ a2 2 0 1).bind fun τ8 =>
 some (0, τ8, sz)
set_option maxHeartbeats 4000000 in
set_option maxRecDepth 100000 in
theorem c_L_isBooked {l : Launch} (hfl : l.stackTraces = false) {g : PP} {N : Nat} {σ : Sto} {sz : Nat} {a0 : Nat} {v1 : Int32} {a2 : Nat} {r9 : Int32} {σ9 : Sto} {sz9 : Nat} (h : f_L_isBooked N σ sz a0 v1 a2 = some (r9, σ9, sz9)) : Met l yL_isBooked [Cond.codeWith yL_isBooked cL_isBooked 4 (some .int) [(0, 16, 19, 13)]] (rmk 8 1 6 142) (Pre g σ sz [.ref a0, .int v1, .ref a2]) (PstG g (vI r9) σ9 sz9) 1 6 (Aw g) := by
  refine va_MetW (hh := [(0, 16, 19, 13)]) (cc := cL_isBooked) (maxL := 4) (ret := (some .int)) (by decide) rfl ?_
  intro p e s m args below meth c s₁ B hml hv
  obtain ⟨rfl, C, hs⟩ := ctx_of B hml hv
  have C : Cx g p s m meth c cL_isBooked 4 "TillhouseLaw" := C
  have hr := B.returns
  have tb := vx_table (x := yL_isBooked) B (C.2.2.2.2.1.1 _ cw_L_isBooked _)
  have hl := lv_entry ([.ref a0, .int v1, .ref a2]) (n := 4) (Nat.le_of_ble_eq_true rfl)
  rw [lg_entry_eq]
  generalize (lg_sl ([.ref a0, .int v1, .ref a2]) ++ List.replicate (4 - (lg_sl ([.ref a0, .int v1, .ref a2])).length) Slot.unset).toArray = ls at hl ⊢
  have hl : lv_has ls 4 [(0, .ref a0), (1, .int v1), (2, .ref a2)] := hl
  unfold f_L_isBooked at h
  refine lv_aload_n C.1 C.2.1 dL_isBooked_0 rfl (lv_at hl 2 rfl) ?_
  refine lv_iconst (v := 0) C.1 C.2.1 dL_isBooked_1 (by decide) ?_
  refine lv_aload_n C.1 C.2.1 dL_isBooked_2 rfl (lv_at hl 0 rfl) ?_
  refine lv_iload_n C.1 C.2.1 dL_isBooked_3 rfl (lv_at hl 1 rfl) ?_
  replace h := ob h; obtain ⟨⟨⟩, i1, h⟩ := h
  replace h := ob h; obtain ⟨u3, ex2, h⟩ := h
  rcases u3 with j4 | x2
  · replace h := bsl h
    rcases Decidable.em (j4 = 0) with c5 | c5
    · replace h := ip c5 h
      subst c5
      cases h
      refine sx_xcallV (As := [.int v1]) (rest := [.int 0, .ref a2]) C hs (c_X11_isBooked hfl ex2) mo_X11_isBooked q1293 i1 rfl rfl hl.1 ⟨⟨(Nat.le_of_ble_eq_true rfl), (Nat.le_of_ble_eq_true rfl)⟩, (Nat.le_of_ble_eq_true rfl), (Nat.le_of_ble_eq_true rfl)⟩ rfl (Nat.le_of_ble_eq_true rfl) dL_isBooked_4 (fun k9 hk9 ce q9 H locs f1 f2 f3 f4 f5 f6 => ?_) (fun vr hv => (inlr hv).elim)
      obtain rfl := Sum.inl.inj hk9
      refine sx_catch (k := 0) (hp := []) (hs9 := []) (a9 := 0) (b9 := 16) (h9 := 19) (d9 := 13) C tb (fun _ h => nomatch h) (by decide) (by decide) q339 f4 f5 f6 ?_
      refine lv_astore_n (lv' := [(3, .ref q9), (0, .ref a0), (1, .int v1), (2, .ref a2)]) C.1 C.2.1 dL_isBooked_19 rfl hl (by decide) rfl (fun ls hl => ?_)
      refine lv_iconst (v := 1) C.1 C.2.1 dL_isBooked_20 (by decide) ?_
      refine W.widen (k := 1) (n := 6) (Nat.le_of_ble_eq_true rfl) (Nat.le_of_ble_eq_true rfl) ?_
      exact sx_iretK C f1 f2 f3 hr rfl dL_isBooked_21
    · replace h := iN c5 h
      cases h
  · replace h := bsr h
    refine sx_xcallV (As := [.int v1]) (rest := [.int 0, .ref a2]) C hs (c_X11_isBooked hfl ex2) mo_X11_isBooked q1293 i1 rfl rfl hl.1 ⟨⟨(Nat.le_of_ble_eq_true rfl), (Nat.le_of_ble_eq_true rfl)⟩, (Nat.le_of_ble_eq_true rfl), (Nat.le_of_ble_eq_true rfl)⟩ rfl (Nat.le_of_ble_eq_true rfl) dL_isBooked_4 (fun k9 hk9 => (inrl hk9).elim) (fun vr hv H locs hs => ?_)
    obtain rfl := Sum.inr.inj hv
    refine W.eq (g2 := F0 m 7 ls [.int x2, .int 0, .ref a2]) rfl ?_
    refine W.widen (k := 0) (n := 0) (Nat.le_of_ble_eq_true rfl) (Nat.le_of_ble_eq_true rfl) ?_
    refine lv_if_eq (tgt := 14) C.1 C.2.1 dL_isBooked_7 (by decide) (fun c6 => ?_) (fun c6 => ?_)
    · replace h := ip c6 h
      refine lv_lconst (v := 0) C.1 C.2.1 dL_isBooked_14 (by decide) ?_
      replace h := ob h; obtain ⟨τ7, eτ7, h⟩ := h
      refine sx_last C hs eτ7 dL_isBooked_15 (fun H locs hs => ?_)
      refine lv_goto (tgt := 22) C.1 C.2.1 dL_isBooked_16 (by decide) ?_
      refine lv_iconst (v := 0) C.1 C.2.1 dL_isBooked_22 (by decide) ?_
      cases h
      refine W.widen (k := 1) (n := 6) (Nat.le_of_ble_eq_true rfl) (Nat.le_of_ble_eq_true rfl) ?_
      exact sx_iretG C hs hr rfl dL_isBooked_23
    · replace h := iN c6 h
      refine lv_lconst (v := 1) C.1 C.2.1 dL_isBooked_10 (by decide) ?_
      refine lv_goto (tgt := 15) C.1 C.2.1 dL_isBooked_11 (by decide) ?_
      replace h := ob h; obtain ⟨τ8, eτ8, h⟩ := h
      refine sx_last C hs eτ8 dL_isBooked_15 (fun H locs hs => ?_)
      refine lv_goto (tgt := 22) C.1 C.2.1 dL_isBooked_16 (by decide) ?_
      refine lv_iconst (v := 0) C.1 C.2.1 dL_isBooked_22 (by decide) ?_
      cases h
      refine W.widen (k := 1) (n := 6) (Nat.le_of_ble_eq_true rfl) (Nat.le_of_ble_eq_true rfl) ?_
      exact sx_iretG C hs hr rfl dL_isBooked_23
def f_L_side (N : Nat) (σ : Sto) (sz : Nat) (a0 : Nat) (v1 : Int32) (v2 : Int32) (v3 : Int32) (a4 : Nat) : Option (Int32 × Sto × Nat) :=
 (isO σ a0 10).bind fun _ =>
 (f_X11_side N σ a0 v1 v2 v3).bind fun u3 =>
 bs u3 (fun j4 => if j4 = 0 then some (1, σ, sz) else if j4 = 1 then some (2, σ, sz) else none) fun x2 =>
 (sL σ a4 2 0 x2).bind fun τ7 =>
 some (0, τ7, sz)
set_option maxHeartbeats 4000000 in
set_option maxRecDepth 100000 in
theorem c_L_side {l : Launch} (hfl : l.stackTraces = false) {g : PP} {N : Nat} {σ : Sto} {sz : Nat} {a0 : Nat} {v1 : Int32} {v2 : Int32} {v3 : Int32} {a4 : Nat} {r9 : Int32} {σ9 : Sto} {sz9 : Nat} (h : f_L_side N σ sz a0 v1 v2 v3 a4 = some (r9, σ9, sz9)) : Met l yL_side [Cond.codeWith yL_side cL_side 6 (some .int) [(0, 11, 14, 13), (0, 11, 18, 15)]] (rmk 8 1 6 143) (Pre g σ sz [.ref a0, .int v1, .int v2, .int v3, .ref a4]) (PstG g (vI r9) σ9 sz9) 1 6 (Aw g) := by
  refine va_MetW (hh := [(0, 11, 14, 13), (0, 11, 18, 15)]) (cc := cL_side) (maxL := 6) (ret := (some .int)) (by decide) rfl ?_
  intro p e s m args below meth c s₁ B hml hv
  obtain ⟨rfl, C, hs⟩ := ctx_of B hml hv
  have C : Cx g p s m meth c cL_side 6 "TillhouseLaw" := C
  have hr := B.returns
  have tb := vx_table (x := yL_side) B (C.2.2.2.2.1.1 _ cw_L_side _)
  have hl := lv_entry ([.ref a0, .int v1, .int v2, .int v3, .ref a4]) (n := 6) (Nat.le_of_ble_eq_true rfl)
  rw [lg_entry_eq]
  generalize (lg_sl ([.ref a0, .int v1, .int v2, .int v3, .ref a4]) ++ List.replicate (6 - (lg_sl ([.ref a0, .int v1, .int v2, .int v3, .ref a4])).length) Slot.unset).toArray = ls at hl ⊢
  have hl : lv_has ls 6 [(0, .ref a0), (1, .int v1), (2, .int v2), (3, .int v3), (4, .ref a4)] := hl
  unfold f_L_side at h
  refine lv_aload C.1 C.2.1 dL_side_0 (lv_at hl 4 rfl) ?_
  refine lv_iconst (v := 0) C.1 C.2.1 dL_side_2 (by decide) ?_
  refine lv_aload_n C.1 C.2.1 dL_side_3 rfl (lv_at hl 0 rfl) ?_
  refine lv_iload_n C.1 C.2.1 dL_side_4 rfl (lv_at hl 1 rfl) ?_
  refine lv_iload_n C.1 C.2.1 dL_side_5 rfl (lv_at hl 2 rfl) ?_
  refine lv_iload_n C.1 C.2.1 dL_side_6 rfl (lv_at hl 3 rfl) ?_
  replace h := ob h; obtain ⟨⟨⟩, i1, h⟩ := h
  replace h := ob h; obtain ⟨u3, ex2, h⟩ := h
  rcases u3 with j4 | x2
  · replace h := bsl h
    rcases Decidable.em (j4 = 0) with c5 | c5
    · replace h := ip c5 h
      subst c5
      cases h
      refine sx_xcallV (As := [.int v1, .int v2, .int v3]) (rest := [.int 0, .ref a4]) C hs (c_X11_side hfl ex2) mo_X11_side q1300 i1 rfl rfl hl.1 ⟨⟨(Nat.le_of_ble_eq_true rfl), (Nat.le_of_ble_eq_true rfl)⟩, (Nat.le_of_ble_eq_true rfl), (Nat.le_of_ble_eq_true rfl)⟩ rfl (Nat.le_of_ble_eq_true rfl) dL_side_7 (fun k9 hk9 ce q9 H locs f1 f2 f3 f4 f5 f6 => ?_) (fun vr hv => (inlr hv).elim)
      obtain rfl := Sum.inl.inj hk9
      refine sx_catch (k := 0) (hp := []) (hs9 := [(0, 11, 18, 15)]) (a9 := 0) (b9 := 11) (h9 := 14) (d9 := 13) C tb (fun _ h => nomatch h) (by decide) (by decide) q339 f4 f5 f6 ?_
      refine lv_astore (lv' := [(5, .ref q9), (0, .ref a0), (1, .int v1), (2, .int v2), (3, .int v3), (4, .ref a4)]) C.1 C.2.1 dL_side_14 hl (by decide) rfl (fun ls hl => ?_)
      refine lv_iconst (v := 1) C.1 C.2.1 dL_side_16 (by decide) ?_
      refine W.widen (k := 1) (n := 6) (Nat.le_of_ble_eq_true rfl) (Nat.le_of_ble_eq_true rfl) ?_
      exact sx_iretK C f1 f2 f3 hr rfl dL_side_17
    · replace h := iN c5 h
      rcases Decidable.em (j4 = 1) with c6 | c6
      · replace h := ip c6 h
        subst c6
        cases h
        refine sx_xcallV (As := [.int v1, .int v2, .int v3]) (rest := [.int 0, .ref a4]) C hs (c_X11_side hfl ex2) mo_X11_side q1300 i1 rfl rfl hl.1 ⟨⟨(Nat.le_of_ble_eq_true rfl), (Nat.le_of_ble_eq_true rfl)⟩, (Nat.le_of_ble_eq_true rfl), (Nat.le_of_ble_eq_true rfl)⟩ rfl (Nat.le_of_ble_eq_true rfl) dL_side_7 (fun k9 hk9 ce q9 H locs f1 f2 f3 f4 f5 f6 => ?_) (fun vr hv => (inlr hv).elim)
        obtain rfl := Sum.inl.inj hk9
        refine sx_catch (k := 1) (hp := [(0, 11, 14, 13)]) (hs9 := []) (a9 := 0) (b9 := 11) (h9 := 18) (d9 := 15) C tb (List.forall_mem_cons.mpr ⟨⟨by decide, 0, q339, by decide⟩, (fun _ h => nomatch h)⟩) (by decide) (by decide) q419 f4 f5 f6 ?_
        refine lv_astore (lv' := [(5, .ref q9), (0, .ref a0), (1, .int v1), (2, .int v2), (3, .int v3), (4, .ref a4)]) C.1 C.2.1 dL_side_18 hl (by decide) rfl (fun ls hl => ?_)
        refine lv_iconst (v := 2) C.1 C.2.1 dL_side_20 (by decide) ?_
        refine W.widen (k := 1) (n := 6) (Nat.le_of_ble_eq_true rfl) (Nat.le_of_ble_eq_true rfl) ?_
        exact sx_iretK C f1 f2 f3 hr rfl dL_side_21
      · replace h := iN c6 h
        cases h
  · replace h := bsr h
    refine sx_xcallV (As := [.int v1, .int v2, .int v3]) (rest := [.int 0, .ref a4]) C hs (c_X11_side hfl ex2) mo_X11_side q1300 i1 rfl rfl hl.1 ⟨⟨(Nat.le_of_ble_eq_true rfl), (Nat.le_of_ble_eq_true rfl)⟩, (Nat.le_of_ble_eq_true rfl), (Nat.le_of_ble_eq_true rfl)⟩ rfl (Nat.le_of_ble_eq_true rfl) dL_side_7 (fun k9 hk9 => (inrl hk9).elim) (fun vr hv H locs hs => ?_)
    obtain rfl := Sum.inr.inj hv
    refine W.eq (g2 := F0 m 10 ls [.long x2, .int 0, .ref a4]) rfl ?_
    refine W.widen (k := 0) (n := 0) (Nat.le_of_ble_eq_true rfl) (Nat.le_of_ble_eq_true rfl) ?_
    replace h := ob h; obtain ⟨τ7, eτ7, h⟩ := h
    refine sx_last C hs eτ7 dL_side_10 (fun H locs hs => ?_)
    refine lv_goto (tgt := 22) C.1 C.2.1 dL_side_11 (by decide) ?_
    refine lv_iconst (v := 0) C.1 C.2.1 dL_side_22 (by decide) ?_
    cases h
    refine W.widen (k := 1) (n := 6) (Nat.le_of_ble_eq_true rfl) (Nat.le_of_ble_eq_true rfl) ?_
    exact sx_iretG C hs hr rfl dL_side_23
def f_L_nextAccount (N : Nat) (σ : Sto) (sz : Nat) (a0 : Nat) (v1 : Int32) (a2 : Nat) : Option (Int32 × Sto × Nat) :=
 (isO σ a0 10).bind fun _ =>
 (f_X11_nextAccount N σ a0 v1).bind fun u3 =>
 bs u3 (fun j4 => if j4 = 2 then some (1, σ, sz) else none) fun x2 =>
 (sL σ a2 2 0 (Int32.toInt64 x2)).bind fun τ6 =>
 some (0, τ6, sz)
set_option maxHeartbeats 4000000 in
set_option maxRecDepth 100000 in
theorem c_L_nextAccount {l : Launch} (hfl : l.stackTraces = false) {g : PP} {N : Nat} {σ : Sto} {sz : Nat} {a0 : Nat} {v1 : Int32} {a2 : Nat} {r9 : Int32} {σ9 : Sto} {sz9 : Nat} (h : f_L_nextAccount N σ sz a0 v1 a2 = some (r9, σ9, sz9)) : Met l yL_nextAccount [Cond.codeWith yL_nextAccount cL_nextAccount 4 (some .int) [(0, 9, 12, 33)]] (rmk 7 1 6 122) (Pre g σ sz [.ref a0, .int v1, .ref a2]) (PstG g (vI r9) σ9 sz9) 1 6 (Aw g) := by
  refine va_MetW (hh := [(0, 9, 12, 33)]) (cc := cL_nextAccount) (maxL := 4) (ret := (some .int)) (by decide) rfl ?_
  intro p e s m args below meth c s₁ B hml hv
  obtain ⟨rfl, C, hs⟩ := ctx_of B hml hv
  have C : Cx g p s m meth c cL_nextAccount 4 "TillhouseLaw" := C
  have hr := B.returns
  have tb := vx_table (x := yL_nextAccount) B (C.2.2.2.2.1.1 _ cw_L_nextAccount _)
  have hl := lv_entry ([.ref a0, .int v1, .ref a2]) (n := 4) (Nat.le_of_ble_eq_true rfl)
  rw [lg_entry_eq]
  generalize (lg_sl ([.ref a0, .int v1, .ref a2]) ++ List.replicate (4 - (lg_sl ([.ref a0, .int v1, .ref a2])).length) Slot.unset).toArray = ls at hl ⊢
  have hl : lv_has ls 4 [(0, .ref a0), (1, .int v1), (2, .ref a2)] := hl
  unfold f_L_nextAccount at h
  refine lv_aload_n C.1 C.2.1 dL_nextAccount_0 rfl (lv_at hl 2 rfl) ?_
  refine lv_iconst (v := 0) C.1 C.2.1 dL_nextAccount_1 (by decide) ?_
  refine lv_aload_n C.1 C.2.1 dL_nextAccount_2 rfl (lv_at hl 0 rfl) ?_
  refine lv_iload_n C.1 C.2.1 dL_nextAccount_3 rfl (lv_at hl 1 rfl) ?_
  replace h := ob h; obtain ⟨⟨⟩, i1, h⟩ := h
  replace h := ob h; obtain ⟨u3, ex2, h⟩ := h
  rcases u3 with j4 | x2
  · replace h := bsl h
    rcases Decidable.em (j4 = 2) with c5 | c5
    · replace h := ip c5 h
      subst c5
      cases h
      refine sx_xcallV (As := [.int v1]) (rest := [.int 0, .ref a2]) C hs (c_X11_nextAccount hfl ex2) mo_X11_nextAccount q1309 i1 rfl rfl hl.1 ⟨⟨(Nat.le_of_ble_eq_true rfl), (Nat.le_of_ble_eq_true rfl)⟩, (Nat.le_of_ble_eq_true rfl), (Nat.le_of_ble_eq_true rfl)⟩ rfl (Nat.le_of_ble_eq_true rfl) dL_nextAccount_4 (fun k9 hk9 ce q9 H locs f1 f2 f3 f4 f5 f6 => ?_) (fun vr hv => (inlr hv).elim)
      obtain rfl := Sum.inl.inj hk9
      refine sx_catch (k := 2) (hp := []) (hs9 := []) (a9 := 0) (b9 := 9) (h9 := 12) (d9 := 33) C tb (fun _ h => nomatch h) (by decide) (by decide) q569 f4 f5 f6 ?_
      refine lv_astore_n (lv' := [(3, .ref q9), (0, .ref a0), (1, .int v1), (2, .ref a2)]) C.1 C.2.1 dL_nextAccount_12 rfl hl (by decide) rfl (fun ls hl => ?_)
      refine lv_iconst (v := 1) C.1 C.2.1 dL_nextAccount_13 (by decide) ?_
      refine W.widen (k := 1) (n := 6) (Nat.le_of_ble_eq_true rfl) (Nat.le_of_ble_eq_true rfl) ?_
      exact sx_iretK C f1 f2 f3 hr rfl dL_nextAccount_14
    · replace h := iN c5 h
      cases h
  · replace h := bsr h
    refine sx_xcallV (As := [.int v1]) (rest := [.int 0, .ref a2]) C hs (c_X11_nextAccount hfl ex2) mo_X11_nextAccount q1309 i1 rfl rfl hl.1 ⟨⟨(Nat.le_of_ble_eq_true rfl), (Nat.le_of_ble_eq_true rfl)⟩, (Nat.le_of_ble_eq_true rfl), (Nat.le_of_ble_eq_true rfl)⟩ rfl (Nat.le_of_ble_eq_true rfl) dL_nextAccount_4 (fun k9 hk9 => (inrl hk9).elim) (fun vr hv H locs hs => ?_)
    obtain rfl := Sum.inr.inj hv
    refine W.eq (g2 := F0 m 7 ls [.int x2, .int 0, .ref a2]) rfl ?_
    refine W.widen (k := 0) (n := 0) (Nat.le_of_ble_eq_true rfl) (Nat.le_of_ble_eq_true rfl) ?_
    refine lv_i2l (v := Int32.toInt64 x2) C.1 C.2.1 dL_nextAccount_7 rfl ?_
    replace h := ob h; obtain ⟨τ6, eτ6, h⟩ := h
    refine sx_last C hs eτ6 dL_nextAccount_8 (fun H locs hs => ?_)
    refine lv_goto (tgt := 15) C.1 C.2.1 dL_nextAccount_9 (by decide) ?_
    refine lv_iconst (v := 0) C.1 C.2.1 dL_nextAccount_15 (by decide) ?_
    cases h
    refine W.widen (k := 1) (n := 6) (Nat.le_of_ble_eq_true rfl) (Nat.le_of_ble_eq_true rfl) ?_
    exact sx_iretG C hs hr rfl dL_nextAccount_16
def f_L_shut (N : Nat) (σ : Sto) (sz : Nat) (a0 : Nat) (v1 : Int32) (a2 : Nat) : Option (Int32 × Sto × Nat) :=
 (isO σ a0 10).bind fun _ =>
 b2 (f_X11_shut N σ a0 v1) fun u4 τ3 =>
 bs u4 (fun j5 => if j5 = 1 then some (1, τ3, sz) else if j5 = 5 then some (2, τ3, sz) else none) fun x2 =>
 (sL τ3 a2 2 0 (Int32.toInt64 x2)).bind fun τ8 =>
 some (0, τ8, sz)
set_option maxHeartbeats 4000000 in
set_option maxRecDepth 100000 in
theorem c_L_shut {l : Launch} (hfl : l.stackTraces = false) {g : PP} {N : Nat} {σ : Sto} {sz : Nat} {a0 : Nat} {v1 : Int32} {a2 : Nat} {r9 : Int32} {σ9 : Sto} {sz9 : Nat} (h : f_L_shut N σ sz a0 v1 a2 = some (r9, σ9, sz9)) : Met l yL_shut [Cond.codeWith yL_shut cL_shut 4 (some .int) [(0, 9, 12, 15), (0, 9, 15, 105)]] (rmk 8 1 6 146) (Pre g σ sz [.ref a0, .int v1, .ref a2]) (PstG g (vI r9) σ9 sz9) 1 6 (Aw g) := by
  refine va_MetW (hh := [(0, 9, 12, 15), (0, 9, 15, 105)]) (cc := cL_shut) (maxL := 4) (ret := (some .int)) (by decide) rfl ?_
  intro p e s m args below meth c s₁ B hml hv
  obtain ⟨rfl, C, hs⟩ := ctx_of B hml hv
  have C : Cx g p s m meth c cL_shut 4 "TillhouseLaw" := C
  have hr := B.returns
  have tb := vx_table (x := yL_shut) B (C.2.2.2.2.1.1 _ cw_L_shut _)
  have hl := lv_entry ([.ref a0, .int v1, .ref a2]) (n := 4) (Nat.le_of_ble_eq_true rfl)
  rw [lg_entry_eq]
  generalize (lg_sl ([.ref a0, .int v1, .ref a2]) ++ List.replicate (4 - (lg_sl ([.ref a0, .int v1, .ref a2])).length) Slot.unset).toArray = ls at hl ⊢
  have hl : lv_has ls 4 [(0, .ref a0), (1, .int v1), (2, .ref a2)] := hl
  unfold f_L_shut at h
  refine lv_aload_n C.1 C.2.1 dL_shut_0 rfl (lv_at hl 2 rfl) ?_
  refine lv_iconst (v := 0) C.1 C.2.1 dL_shut_1 (by decide) ?_
  refine lv_aload_n C.1 C.2.1 dL_shut_2 rfl (lv_at hl 0 rfl) ?_
  refine lv_iload_n C.1 C.2.1 dL_shut_3 rfl (lv_at hl 1 rfl) ?_
  replace h := ob h; obtain ⟨⟨⟩, i1, h⟩ := h
  replace h := ob2 h; obtain ⟨u4, τ3, ex2, h⟩ := h
  rcases u4 with j5 | x2
  · replace h := bsl h
    rcases Decidable.em (j5 = 1) with c6 | c6
    · replace h := ip c6 h
      subst c6
      cases h
      refine sx_xcallV (As := [.int v1]) (rest := [.int 0, .ref a2]) C hs (c_X11_shut hfl ex2) mo_X11_shut q1321 i1 rfl rfl hl.1 ⟨⟨(Nat.le_of_ble_eq_true rfl), (Nat.le_of_ble_eq_true rfl)⟩, (Nat.le_of_ble_eq_true rfl), (Nat.le_of_ble_eq_true rfl)⟩ rfl (Nat.le_of_ble_eq_true rfl) dL_shut_4 (fun k9 hk9 ce q9 H locs f1 f2 f3 f4 f5 f6 => ?_) (fun vr hv => (inlr hv).elim)
      obtain rfl := Sum.inl.inj hk9
      refine sx_catch (k := 1) (hp := []) (hs9 := [(0, 9, 15, 105)]) (a9 := 0) (b9 := 9) (h9 := 12) (d9 := 15) C tb (fun _ h => nomatch h) (by decide) (by decide) q419 f4 f5 f6 ?_
      refine lv_astore_n (lv' := [(3, .ref q9), (0, .ref a0), (1, .int v1), (2, .ref a2)]) C.1 C.2.1 dL_shut_12 rfl hl (by decide) rfl (fun ls hl => ?_)
      refine lv_iconst (v := 1) C.1 C.2.1 dL_shut_13 (by decide) ?_
      refine W.widen (k := 1) (n := 6) (Nat.le_of_ble_eq_true rfl) (Nat.le_of_ble_eq_true rfl) ?_
      exact sx_iretK C f1 f2 f3 hr rfl dL_shut_14
    · replace h := iN c6 h
      rcases Decidable.em (j5 = 5) with c7 | c7
      · replace h := ip c7 h
        subst c7
        cases h
        refine sx_xcallV (As := [.int v1]) (rest := [.int 0, .ref a2]) C hs (c_X11_shut hfl ex2) mo_X11_shut q1321 i1 rfl rfl hl.1 ⟨⟨(Nat.le_of_ble_eq_true rfl), (Nat.le_of_ble_eq_true rfl)⟩, (Nat.le_of_ble_eq_true rfl), (Nat.le_of_ble_eq_true rfl)⟩ rfl (Nat.le_of_ble_eq_true rfl) dL_shut_4 (fun k9 hk9 ce q9 H locs f1 f2 f3 f4 f5 f6 => ?_) (fun vr hv => (inlr hv).elim)
        obtain rfl := Sum.inl.inj hk9
        refine sx_catch (k := 5) (hp := [(0, 9, 12, 15)]) (hs9 := []) (a9 := 0) (b9 := 9) (h9 := 15) (d9 := 105) C tb (List.forall_mem_cons.mpr ⟨⟨by decide, 1, q419, by decide⟩, (fun _ h => nomatch h)⟩) (by decide) (by decide) q1031 f4 f5 f6 ?_
        refine lv_astore_n (lv' := [(3, .ref q9), (0, .ref a0), (1, .int v1), (2, .ref a2)]) C.1 C.2.1 dL_shut_15 rfl hl (by decide) rfl (fun ls hl => ?_)
        refine lv_iconst (v := 2) C.1 C.2.1 dL_shut_16 (by decide) ?_
        refine W.widen (k := 1) (n := 6) (Nat.le_of_ble_eq_true rfl) (Nat.le_of_ble_eq_true rfl) ?_
        exact sx_iretK C f1 f2 f3 hr rfl dL_shut_17
      · replace h := iN c7 h
        cases h
  · replace h := bsr h
    refine sx_xcallV (As := [.int v1]) (rest := [.int 0, .ref a2]) C hs (c_X11_shut hfl ex2) mo_X11_shut q1321 i1 rfl rfl hl.1 ⟨⟨(Nat.le_of_ble_eq_true rfl), (Nat.le_of_ble_eq_true rfl)⟩, (Nat.le_of_ble_eq_true rfl), (Nat.le_of_ble_eq_true rfl)⟩ rfl (Nat.le_of_ble_eq_true rfl) dL_shut_4 (fun k9 hk9 => (inrl hk9).elim) (fun vr hv H locs hs => ?_)
    obtain rfl := Sum.inr.inj hv
    refine W.eq (g2 := F0 m 7 ls [.int x2, .int 0, .ref a2]) rfl ?_
    refine W.widen (k := 0) (n := 0) (Nat.le_of_ble_eq_true rfl) (Nat.le_of_ble_eq_true rfl) ?_
    refine lv_i2l (v := Int32.toInt64 x2) C.1 C.2.1 dL_shut_7 rfl ?_
    replace h := ob h; obtain ⟨τ8, eτ8, h⟩ := h
    refine sx_last C hs eτ8 dL_shut_8 (fun H locs hs => ?_)
    refine lv_goto (tgt := 18) C.1 C.2.1 dL_shut_9 (by decide) ?_
    refine lv_iconst (v := 0) C.1 C.2.1 dL_shut_18 (by decide) ?_
    cases h
    refine W.widen (k := 1) (n := 6) (Nat.le_of_ble_eq_true rfl) (Nat.le_of_ble_eq_true rfl) ?_
    exact sx_iretG C hs hr rfl dL_shut_19
def f_L_undo (σ : Sto) (sz : Nat) (a0 : Nat) (a1 : Nat) : Option (Int32 × Sto × Nat) :=
 (isO σ a0 10).bind fun _ =>
 b2 (f_X11_undo σ a0) fun u4 τ3 =>
 bs u4 (fun j5 => if j5 = 2 then some (1, τ3, sz) else if j5 = 5 then some (2, τ3, sz) else none) fun x2 =>
 (sL τ3 a1 2 0 (Int32.toInt64 x2)).bind fun τ8 =>
 some (0, τ8, sz)
set_option maxHeartbeats 4000000 in
set_option maxRecDepth 100000 in
theorem c_L_undo {l : Launch} (hfl : l.stackTraces = false) {g : PP} {σ : Sto} {sz : Nat} {a0 : Nat} {a1 : Nat} {r9 : Int32} {σ9 : Sto} {sz9 : Nat} (h : f_L_undo σ sz a0 a1 = some (r9, σ9, sz9)) : Met l yL_undo [Cond.codeWith yL_undo cL_undo 3 (some .int) [(0, 8, 11, 33), (0, 8, 14, 105)]] (rmk 8 1 6 141) (Pre g σ sz [.ref a0, .ref a1]) (PstG g (vI r9) σ9 sz9) 1 6 (Aw g) := by
  refine va_MetW (hh := [(0, 8, 11, 33), (0, 8, 14, 105)]) (cc := cL_undo) (maxL := 3) (ret := (some .int)) (by decide) rfl ?_
  intro p e s m args below meth c s₁ B hml hv
  obtain ⟨rfl, C, hs⟩ := ctx_of B hml hv
  have C : Cx g p s m meth c cL_undo 3 "TillhouseLaw" := C
  have hr := B.returns
  have tb := vx_table (x := yL_undo) B (C.2.2.2.2.1.1 _ cw_L_undo _)
  have hl := lv_entry ([.ref a0, .ref a1]) (n := 3) (Nat.le_of_ble_eq_true rfl)
  rw [lg_entry_eq]
  generalize (lg_sl ([.ref a0, .ref a1]) ++ List.replicate (3 - (lg_sl ([.ref a0, .ref a1])).length) Slot.unset).toArray = ls at hl ⊢
  have hl : lv_has ls 3 [(0, .ref a0), (1, .ref a1)] := hl
  unfold f_L_undo at h
  refine lv_aload_n C.1 C.2.1 dL_undo_0 rfl (lv_at hl 1 rfl) ?_
  refine lv_iconst (v := 0) C.1 C.2.1 dL_undo_1 (by decide) ?_
  refine lv_aload_n C.1 C.2.1 dL_undo_2 rfl (lv_at hl 0 rfl) ?_
  replace h := ob h; obtain ⟨⟨⟩, i1, h⟩ := h
  replace h := ob2 h; obtain ⟨u4, τ3, ex2, h⟩ := h
  rcases u4 with j5 | x2
  · replace h := bsl h
    rcases Decidable.em (j5 = 2) with c6 | c6
    · replace h := ip c6 h
      subst c6
      cases h
      refine sx_xcallV (As := []) (rest := [.int 0, .ref a1]) C hs (c_X11_undo hfl ex2) mo_X11_undo q1333 i1 rfl rfl hl.1 ⟨⟨(Nat.le_of_ble_eq_true rfl), (Nat.le_of_ble_eq_true rfl)⟩, (Nat.le_of_ble_eq_true rfl), (Nat.le_of_ble_eq_true rfl)⟩ rfl (Nat.le_of_ble_eq_true rfl) dL_undo_3 (fun k9 hk9 ce q9 H locs f1 f2 f3 f4 f5 f6 => ?_) (fun vr hv => (inlr hv).elim)
      obtain rfl := Sum.inl.inj hk9
      refine sx_catch (k := 2) (hp := []) (hs9 := [(0, 8, 14, 105)]) (a9 := 0) (b9 := 8) (h9 := 11) (d9 := 33) C tb (fun _ h => nomatch h) (by decide) (by decide) q569 f4 f5 f6 ?_
      refine lv_astore_n (lv' := [(2, .ref q9), (0, .ref a0), (1, .ref a1)]) C.1 C.2.1 dL_undo_11 rfl hl (by decide) rfl (fun ls hl => ?_)
      refine lv_iconst (v := 1) C.1 C.2.1 dL_undo_12 (by decide) ?_
      refine W.widen (k := 1) (n := 6) (Nat.le_of_ble_eq_true rfl) (Nat.le_of_ble_eq_true rfl) ?_
      exact sx_iretK C f1 f2 f3 hr rfl dL_undo_13
    · replace h := iN c6 h
      rcases Decidable.em (j5 = 5) with c7 | c7
      · replace h := ip c7 h
        subst c7
        cases h
        refine sx_xcallV (As := []) (rest := [.int 0, .ref a1]) C hs (c_X11_undo hfl ex2) mo_X11_undo q1333 i1 rfl rfl hl.1 ⟨⟨(Nat.le_of_ble_eq_true rfl), (Nat.le_of_ble_eq_true rfl)⟩, (Nat.le_of_ble_eq_true rfl), (Nat.le_of_ble_eq_true rfl)⟩ rfl (Nat.le_of_ble_eq_true rfl) dL_undo_3 (fun k9 hk9 ce q9 H locs f1 f2 f3 f4 f5 f6 => ?_) (fun vr hv => (inlr hv).elim)
        obtain rfl := Sum.inl.inj hk9
        refine sx_catch (k := 5) (hp := [(0, 8, 11, 33)]) (hs9 := []) (a9 := 0) (b9 := 8) (h9 := 14) (d9 := 105) C tb (List.forall_mem_cons.mpr ⟨⟨by decide, 2, q569, by decide⟩, (fun _ h => nomatch h)⟩) (by decide) (by decide) q1031 f4 f5 f6 ?_
        refine lv_astore_n (lv' := [(2, .ref q9), (0, .ref a0), (1, .ref a1)]) C.1 C.2.1 dL_undo_14 rfl hl (by decide) rfl (fun ls hl => ?_)
        refine lv_iconst (v := 2) C.1 C.2.1 dL_undo_15 (by decide) ?_
        refine W.widen (k := 1) (n := 6) (Nat.le_of_ble_eq_true rfl) (Nat.le_of_ble_eq_true rfl) ?_
        exact sx_iretK C f1 f2 f3 hr rfl dL_undo_16
      · replace h := iN c7 h
        cases h
  · replace h := bsr h
    refine sx_xcallV (As := []) (rest := [.int 0, .ref a1]) C hs (c_X11_undo hfl ex2) mo_X11_undo q1333 i1 rfl rfl hl.1 ⟨⟨(Nat.le_of_ble_eq_true rfl), (Nat.le_of_ble_eq_true rfl)⟩, (Nat.le_of_ble_eq_true rfl), (Nat.le_of_ble_eq_true rfl)⟩ rfl (Nat.le_of_ble_eq_true rfl) dL_undo_3 (fun k9 hk9 => (inrl hk9).elim) (fun vr hv H locs hs => ?_)
    obtain rfl := Sum.inr.inj hv
    refine W.eq (g2 := F0 m 6 ls [.int x2, .int 0, .ref a1]) rfl ?_
    refine W.widen (k := 0) (n := 0) (Nat.le_of_ble_eq_true rfl) (Nat.le_of_ble_eq_true rfl) ?_
    refine lv_i2l (v := Int32.toInt64 x2) C.1 C.2.1 dL_undo_6 rfl ?_
    replace h := ob h; obtain ⟨τ8, eτ8, h⟩ := h
    refine sx_last C hs eτ8 dL_undo_7 (fun H locs hs => ?_)
    refine lv_goto (tgt := 17) C.1 C.2.1 dL_undo_8 (by decide) ?_
    refine lv_iconst (v := 0) C.1 C.2.1 dL_undo_17 (by decide) ?_
    cases h
    refine W.widen (k := 1) (n := 6) (Nat.le_of_ble_eq_true rfl) (Nat.le_of_ble_eq_true rfl) ?_
    exact sx_iretG C hs hr rfl dL_undo_18
