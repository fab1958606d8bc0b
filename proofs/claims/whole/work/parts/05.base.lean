/-! ===== the store: what each cell of ours holds, by its address; a world is a store ===== -/
abbrev Cn : Type := (Nat → Int32) ⊕ (Nat → Int64) ⊕ (Nat → Option Nat)
abbrev Ent : Type := (Nat × (Nat → Value)) ⊕ (Nat × Nat × Cn)
abbrev Sto : Type := Nat → Option Ent
/-- classes and slots, classes of arrays, the table of powers, the first cell that is ours -/
abbrev PP : Type := va_G × (Nat → ClassId) × Nat × Nat
def cnv : Cn → Nat → Value
  | .inl f => fun j => .int (f j)
  | .inr (.inl f) => fun j => .long (f j)
  | .inr (.inr f) => fun j => va_rf (f j)
/-- the kinds of arrays -/
def tgT : Nat → FieldType
  | 0 => .char
  | 1 => .int
  | 2 => .long
  | 3 => .boolean
  | 4 => .object "Tillhouse$Value"
  | 5 => .object "Tillhouse$Currency"
  | 6 => .object "Tillhouse$Steps"
  | _ => .object "Tillhouse$Invoice"
/-- the classes of what the arrays of references hold -/
def tgC : Nat → Nat
  | 4 => 9
  | 5 => 0
  | 6 => 7
  | _ => 2
abbrev scl : List vw_C := [(RX0, TX0, 3), (RX1, TX1, 3), (RX2, TX2, 6), (RX3, TX3, 10), (RX4, TX4, 5), (RX5, TX5, 2), (RX7, TX7, 6), (RX8, TX8, 3), (RX9, TX9, 2), (RX10, TX10, 2), (RX11, TX11, 11), (RX12, TX12, 52)]
def gTys (g : PP) : List (ClassId × FieldType) := [(g.2.1 0, tgT 0), (g.2.1 1, tgT 1), (g.2.1 2, tgT 2), (g.2.1 3, tgT 3), (g.2.1 4, tgT 4), (g.2.1 5, tgT 5), (g.2.1 6, tgT 6), (g.2.1 7, tgT 7)]
theorem gTys_at (g : PP) {k : Nat} (h : k < 8) : (gTys g)[k]? = some (g.2.1 k, tgT k) := by
  rcases (show k = 0 ∨ k = 1 ∨ k = 2 ∨ k = 3 ∨ k = 4 ∨ k = 5 ∨ k = 6 ∨ k = 7 by omega) with rfl | rfl | rfl | rfl | rfl | rfl | rfl | rfl <;> rfl
def eAt (g : PP) (a : Nat) (x : Ent) (H : Heap) : Prop := match x with
  | .inl (ci, V) => ∃ r : vw_C, scl[ci]? = some r ∧ t_OB a (g.1.1 ci) r.2.2 (g.1.2 ci) H V
  | .inr (k, n, f) => H[a]? = some (arrV (g.2.1 k) n (cnv f))
def Hp (g : PP) (σ : Sto) (H : Heap) : Prop := ∀ a x, σ a = some x → g.2.2.2 ≤ a ∧ eAt g a x H
abbrev Aw (g : PP) : Nat → Prop := fun q => g.2.2.2 ≤ q
theorem eAt.kept {g : PP} {a : Nat} {x : Ent} {H H1 : Heap} (h : eAt g a x H) (hq : H1[a]? = H[a]?) : eAt g a x H1 := by
  rcases x with ⟨ci, V⟩ | ⟨k, n, f⟩
  · obtain ⟨r, h1, h2⟩ := h
    exact ⟨r, h1, h2.kept hq⟩
  · exact hq.trans h
theorem eAt.lt {g : PP} {a : Nat} {x : Ent} {H : Heap} (h : eAt g a x H) : a < H.size := by
  rcases x with ⟨ci, V⟩ | ⟨k, n, f⟩
  · obtain ⟨r, h1, cell, h2, -⟩ := h
    exact (Array.getElem?_eq_some_iff.mp h2).1
  · exact (Array.getElem?_eq_some_iff.mp h).1
theorem Hp.put {g : PP} {σ : Sto} {H H1 : Heap} {a : Nat} {x : Ent} (h : Hp g σ H) (ha : g.2.2.2 ≤ a) (he : eAt g a x H1) (oq : ∀ q : Nat, q ≠ a → H1[q]? = H[q]?) : Hp g (va_up σ a (some x)) H1 := by
  intro b y hb
  by_cases hab : b = a
  · subst hab
    rw [va_up_self] at hb
    cases hb
    exact ⟨ha, he⟩
  · rw [va_up_ne _ _ hab] at hb
    obtain ⟨h1, h2⟩ := h b y hb
    exact ⟨h1, h2.kept (oq b hab)⟩
theorem Hp.add {g : PP} {σ : Sto} {H H1 : Heap} {a : Nat} {x : Ent} (h : Hp g σ H) (ha : g.2.2.2 ≤ a) (hz : H.size = a) (he : eAt g a x H1) (oq : ∀ q : Nat, q < a → H1[q]? = H[q]?) : Hp g (va_up σ a (some x)) H1 := by
  intro b y hb
  by_cases hab : b = a
  · subst hab
    rw [va_up_self] at hb
    cases hb
    exact ⟨ha, he⟩
  · rw [va_up_ne _ _ hab] at hb
    obtain ⟨h1, h2⟩ := h b y hb
    exact ⟨h1, h2.kept (oq b (by rw [← hz]; exact h2.lt))⟩
theorem Hp.kept {g : PP} {σ : Sto} {H H1 : Heap} (h : Hp g σ H) (oq : ∀ q : Nat, q < H.size → H1[q]? = H[q]?) : Hp g σ H1 := fun a x hx => ⟨(h a x hx).1, (h a x hx).2.kept (oq a (h a x hx).2.lt)⟩
/-! reading and writing the store: none where the machine itself would throw -/
def inB (i : Int32) (n : Nat) : Bool := decide (0 ≤ i.toInt) && decide (i.toInt < n)
theorem inB_vp {i : Int32} {n : Nat} (h : inB i n = true) : vp_in i n := by
  simp only [inB, Bool.and_eq_true, decide_eq_true_eq] at h
  exact vp_in_iff.mpr h
def oF (σ : Sto) (a ci k : Nat) : Option Value := match σ a with
  | some (.inl (c, V)) => if c = ci then some (V k) else none
  | _ => none
def gI (σ : Sto) (a ci k : Nat) : Option Int32 := match oF σ a ci k with
  | some (.int x) => some x
  | _ => none
def gL (σ : Sto) (a ci k : Nat) : Option Int64 := match oF σ a ci k with
  | some (.long x) => some x
  | _ => none
def gR (σ : Sto) (a ci k : Nat) : Option Nat := match oF σ a ci k with
  | some (.ref x) => some x
  | _ => none
def isO (σ : Sto) (a ci : Nat) : Option Unit := match σ a with
  | some (.inl (c, _)) => if c = ci then some () else none
  | _ => none
def pF (σ : Sto) (a ci k : Nat) (v : Value) : Option Sto := match σ a with
  | some (.inl (c, V)) => if c = ci then some (va_up σ a (some (.inl (c, va_up V k v)))) else none
  | _ => none
def aE (σ : Sto) (a k : Nat) : Option (Nat × Cn) := match σ a with
  | some (.inr (t, n, f)) => if t = k then some (n, f) else none
  | _ => none
def aI (σ : Sto) (a k : Nat) (i : Int32) : Option Int32 := match aE σ a k with
  | some (n, .inl f) => if inB i n = true then some (f i.toNatClampNeg) else none
  | _ => none
def aL (σ : Sto) (a k : Nat) (i : Int32) : Option Int64 := match aE σ a k with
  | some (n, .inr (.inl f)) => if inB i n = true then some (f i.toNatClampNeg) else none
  | _ => none
def aQ (σ : Sto) (a k : Nat) (i : Int32) : Option (Option Nat) := match aE σ a k with
  | some (n, .inr (.inr f)) => if inB i n = true then some (f i.toNatClampNeg) else none
  | _ => none
def sI (σ : Sto) (a k : Nat) (i : Int32) (v : Int32) : Option Sto := match aE σ a k with
  | some (n, .inl f) => if inB i n = true then some (va_up σ a (some (.inr (k, n, .inl (va_up f i.toNatClampNeg v))))) else none
  | _ => none
def sL (σ : Sto) (a k : Nat) (i : Int32) (v : Int64) : Option Sto := match aE σ a k with
  | some (n, .inr (.inl f)) => if inB i n = true then some (va_up σ a (some (.inr (k, n, .inr (.inl (va_up f i.toNatClampNeg v)))))) else none
  | _ => none
def sQ (σ : Sto) (a k : Nat) (i : Int32) (v : Nat) : Option Sto := match isO σ v (tgC k) with
  | some _ => match aE σ a k with
    | some (n, .inr (.inr f)) => if inB i n = true then some (va_up σ a (some (.inr (k, n, .inr (.inr (va_up f i.toNatClampNeg (some v))))))) else none
    | _ => none
  | none => none
def aN (σ : Sto) (a k : Nat) : Option Int32 := match aE σ a k with
  | some (n, _) => some (Int32.ofNat n)
  | none => none
def ptab (j : Nat) : Int64 := Int64.ofNat (10 ^ j)
def pw (i : Int32) : Option Int64 := if inB i 19 = true then some (ptab i.toNatClampNeg) else none
def okC (x : Int32) : Bool := decide (0 ≤ x.toInt) && decide (x.toInt < 65536)
def okZ (x : Int32) : Bool := decide (x = 0) || decide (x = 1)
def nC (x : Int32) : Int32 := vp_nar .char x
def nZ (x : Int32) : Int32 := vp_nar .boolean x
/-- a name for a value -/
def lt_ {α β : Type} (a : α) (f : α → β) : β := f a
theorem ob {α β : Type} {o : Option α} {f : α → Option β} {r : β} (h : o.bind f = some r) : ∃ x, o = some x ∧ f x = some r := by
  cases o with
  | none => cases h
  | some x => exact ⟨x, rfl, h⟩
theorem ol {α β : Type} {a : α} {f : α → Option β} {r : β} (h : lt_ a f = some r) : ∃ x, x = a ∧ f x = some r := ⟨a, rfl, h⟩
/-- the exceptions -/
def exN : Nat → String
  | 0 => "java/lang/IndexOutOfBoundsException"
  | 1 => "java/lang/IllegalArgumentException"
  | 2 => "java/util/NoSuchElementException"
  | 3 => "java/lang/ArithmeticException"
  | 4 => "java/lang/IllegalStateException"
  | _ => "java/lang/UnsupportedOperationException"
def vI (x : Int32) : Option Value := some (.int x)
def vL (x : Int64) : Option Value := some (.long x)
def vR (x : Nat) : Option Value := some (.ref x)
def vV (_ : Unit) : Option Value := none
theorem okC_n {x : Int32} (h : okC x = true) : narrow .char (.int x) = .int x ∧ fits .char (.int x) = true := by
  simp only [okC, Bool.and_eq_true, decide_eq_true_eq] at h
  obtain ⟨q, hq, rfl⟩ := nI_of (x := x) (by rw [Int32.lt_iff_toInt_lt]; show ¬ x.toInt < 0; omega)
  rw [nI_toInt hq] at h
  exact pk_charN (by omega)
theorem okZ_n {x : Int32} (h : okZ x = true) : narrow .boolean (.int x) = .int x ∧ fits .boolean (.int x) = true := by
  simp only [okZ, Bool.or_eq_true, decide_eq_true_eq] at h
  rcases h with rfl | rfl <;> exact ⟨by decide, by decide⟩
/-! the words that hold at every state of the launch -/
def isAO : Cond → Bool
  | .arrayOver (.object _) => true
  | _ => false
def isNs : Cond → Bool
  | .methodLinkNest .. => true
  | _ => false
def okW (w : Cond) : Bool := goodWord w || (w.onTables && w.keepsFace) || isAO w || isNs w
theorem okW_tr {w : Cond} {args a' : Array Value} {s U : State} (h : okW w = true) (hW : s.WarmedH U.vm) (hb : w.before args s = true) : w.before a' U = true := by
  simp only [okW, Bool.or_eq_true, Bool.and_eq_true] at h
  rcases h with ((h | ⟨h1, h2⟩) | h) | h
  · exact word_at hW (good_of_word h) hb
  · have e1 := Cond.before_shiftedFace (State.Shifted.of_warmed hW) w h2 hb
    rw [Cond.onTables_vm (A := args) (A' := a') (U := s) (U' := U) U.vm w h1] at e1
    rwa [State.setVm_self] at e1
  · unfold isAO at h
    split at h
    · exact va_AO.use (va_AO.moved hW.alike (va_AO.of hb))
    · cases h
  · unfold isNs at h
    split at h
    · exact va_Nw.use rfl (va_Nw.warmM hW (va_Nw.of rfl hb))
    · cases h
def GW : List Cond := lw_tbl.filter okW
theorem gw_i {w : Cond} (i : Nat) (h : lw_tbl[i]? = some w) (hk : okW w = true) : w ∈ GW := List.mem_filter.mpr ⟨List.mem_of_getElem? h, hk⟩
theorem GW_ok {w : Cond} (h : w ∈ GW) : okW w = true := (List.mem_filter.mp h).2
def GS : List (String × Nat × String) := lw_tbl.filterMap fun w => match w with
  | .stringRef a k t => some (a, k, t)
  | _ => none
/-- what holds of every state: words, texts, classes, the statics -/
def Gd (g : PP) (U : State) (H : Heap) : Prop :=
  (∀ w ∈ GW, ∀ a : Array Value, w.before a U = true) ∧ (∀ q ∈ GS, ∃ sa, vk_R q.1 q.2.1 q.2.2 sa U) ∧ va_K g.1 scl (gTys g) U ∧
  (va_Z "Tillhouse$Reckoning" "POWERS" "[J" (.ref g.2.2.1) (Aw g) U H ∧ va_T .long g.2.2.1 19 (fun j => .long (ptab j)) (Aw g) U H) ∧
  (vx_Zq Bundle.tN "UNASSIGNED_STACK" Bundle.steD (Aw g) U H ∧ vx_Zq Bundle.tN "SUPPRESSED_SENTINEL" Bundle.listD (Aw g) U H) ∧
  (∀ a b : Nat, va_Nc (exN a) (exN b) U ∨ exN a = exN b) ∧ ∀ a : Nat, (Cond.castable (exN a) (exN a)).before #[] U = true
theorem Gd.tr {g : PP} {s U : State} {H0 H : Heap} (h : Gd g s H0) (hW : s.WarmedH U.vm) (hq : ∀ a : Nat, a < H0.size → ¬ Aw g a → H[a]? = H0[a]?) : Gd g U H := by
  obtain ⟨h1, h2, h3, ⟨h4, h5⟩, ⟨h6, h7⟩, h8, h9⟩ := h
  refine ⟨fun w hw a => okW_tr (GW_ok hw) hW (h1 w hw #[]), fun q hq => ?_, va_K.moved hW.alike h3, ⟨(va_Z.moved hW.alike h4).kept hq, (va_T.moved hW.alike h5).kept hq⟩, ⟨(vx_Zq.moved hW.alike h6).kept hq, (vx_Zq.moved hW.alike h7).kept hq⟩, fun a b => (h8 a b).imp (va_Nc.moved hW.alike) id, fun a => ?_⟩
  · obtain ⟨sa, hs⟩ := h2 q hq
    exact ⟨sa, vk_R.warm hW hs⟩
  · exact va_Nw.use rfl (va_Nw.warmC hW (va_Nw.of rfl (h9 a)))
/-- a body's standing facts -/
def Cx (g : PP) (p : Program) (s : State) (m : MethodId) (meth : Method) (c : Code) (cc : ByteArray) (nL : Nat) (own : String) : Prop :=
  p.tables.exec = Jvm.exec ∧ c.code = cc ∧ c.maxLocals = nL ∧ s.vm.findClass own = some m.cls ∧ Gd g s s.heap ∧ meth.locks = false ∧ g.2.2.2 ≤ s.heap.size
/-- the heap stands as the store says, and what isn't ours is as it was -/
def HS (g : PP) (s : State) (σ : Sto) (sz : Nat) (H : Heap) (locs : List Loc) : Prop := Hp g σ H ∧ H.size = sz ∧ va_S (Aw g) s.heap H locs
/-- a method's start, its end -/
def Pre (g : PP) (σ : Sto) (sz : Nat) (av : List Value) : Array Value → State → Prop := va_Pc av (fun U => Gd g U U.heap ∧ Hp g σ U.heap ∧ U.heap.size = sz ∧ g.2.2.2 ≤ sz)
def Pst (g : PP) (vr : Option Value) (σ : Sto) (sz : Nat) : Array Value → State → Outcome → State → Prop := fun _ st oc t => oc = .returned vr ∧ Hp g σ t.heap ∧ t.heap.size = sz ∧ va_F (Aw g) st t
def PstX (g : PP) (r : Nat ⊕ Option Value) (σ : Sto) (sz : Nat) : Array Value → State → Outcome → State → Prop := fun _ st oc t => ∃ vr, r = .inr vr ∧ oc = .returned vr ∧ Hp g σ t.heap ∧ t.heap.size = sz ∧ va_F (Aw g) st t
def XpX (g : PP) (r : Nat ⊕ Option Value) (σ : Sto) (sz : Nat) : String → State → State → Prop := fun E st t => ∃ k, r = .inl k ∧ E = exN k ∧ Hp g σ t.heap ∧ sz ≤ t.heap.size ∧ va_F (Aw g) st t
theorem Pre.blind (g : PP) (σ : Sto) (sz : Nat) (av : List Value) : FrameBlind (Pre g σ sz av) := by
  intro a U gg mk h
  obtain ⟨rfl, h1, h2, h3, h4⟩ := h
  exact ⟨rfl, Gd.tr (U := U.calling gg mk av.toArray) (H := U.heap) h1 (State.WarmedH.refl U) (fun _ _ _ => rfl), h2, h3, h4⟩
theorem HS.entry {g : PP} {s : State} {σ : Sto} {sz : Nat} (h : Hp g σ s.heap) (hz : s.heap.size = sz) : HS g s σ sz s.heap [] := ⟨h, hz, va_S.rf⟩
section SX
variable {g : PP} {p : Program} {l : Launch} {e : Env} {R : Room} {s : State} {m : MethodId} {args : Array Value} {below : List Frame} {meth : Method} {c : Code} {H : Heap} {locs : List Loc} {cells slots : Nat} {Q : State → Prop}
variable {cc : ByteArray} {nL pc : Nat} {own : String} {ls : Array Slot} {rest st0 : List Value} {σ σ1 : Sto} {sz sz1 a ci k : Nat}
/-! fields -/
def FieldAt (own : String) (index ci k : Nat) (ft : FieldType) (C : String) (T : u_T) (N : Nat) (ty : Nat → FieldType) : Prop :=
  scl[ci]? = some (C, T, N) ∧ k < N ∧ (∀ w ∈ u_ws C T N, w ∈ GW) ∧ (∀ k, k < N → parseFieldDescriptor (T k).2.2.1 = some (ty k)) ∧ (∀ a, a < N → ∀ b, b < N → a ≠ b → (T a).2.1 ≠ (T b).2.1) ∧
  Cond.fieldLink own index (T k).1 (T k).2.1 (T k).2.2.1 ∈ GW ∧ parseFieldDescriptor (T k).2.2.1 = some ft
def FieldOk (own : String) (index ci k : Nat) (ft : FieldType) : Prop := ∃ (C : String) (T : u_T) (N : Nat) (ty : Nat → FieldType), FieldAt own index ci k ft C T N ty
def FieldPut (own : String) (index ci k : Nat) (ft : FieldType) : Prop := ∃ (C : String) (T : u_T) (N : Nat) (ty : Nat → FieldType), FieldAt own index ci k ft C T N ty ∧ (T k).2.2.2 = false
def FieldIni (own : String) (index ci k : Nat) (ft : FieldType) : Prop := ∃ (C : String) (T : u_T) (N : Nat) (ty : Nat → FieldType), FieldAt own index ci k ft C T N ty ∧ (T k).2.2.2 = true ∧ (T k).1 = own
theorem sx_getV {index : Nat} {ft : FieldType} {v : Value} (C : Cx g p s m meth c cc nL own) (hs : HS g s σ sz H locs) (F : FieldOk own index ci k ft) (he : oF σ a ci k = some v) (hdg : decode cc pc = .ok (.getfield index, 3))
    (kk : W p l e R s m args below meth c H locs cells slots Q (F0 m (pc + 3) ls (v :: rest))) : W p l e R s m args below meth c H locs cells slots Q (F0 m pc ls (.ref a :: rest)) := by
  obtain ⟨hx, hb, -, hown, ⟨hts, -, hK, -⟩, -⟩ := C
  obtain ⟨C, T, N, ty, hc, hk, hin, hty, hnm, hlk, -⟩ := F
  unfold oF at he
  split at he
  · rename_i c0 V hσ
    split at he
    · rename_i hcc
      subst hcc
      cases he
      obtain ⟨r, h1, cell, q1, q2, q3, q4⟩ := (hs.1 _ _ hσ).2
      cases Option.some.inj (h1.symm.trans hc)
      obtain ⟨hS, hfc, kC, hkC, hkind⟩ := hK.1 _ _ hc
      obtain ⟨cf, kf, fi, f, hi, hsl⟩ := hS k hk
      refine W.getf hx hb hown (hts _ hlk args) hi (u_facts hfc hkC (u_lays (ws := GW) (fun w hw => hts w hw args) hin hk) hi).1 q1 (by rw [q3]; exact fun h => by cases h) (v := V k) ?_ rfl rfl hdg kk
      rw [hsl, q4 k hk]
    · cases he
  · cases he
theorem gI_v {x : Int32} (h : gI σ a ci k = some x) : oF σ a ci k = some (.int x) := by
  unfold gI at h
  split at h
  · rename_i y hy; cases h; exact hy
  · cases h
theorem gL_v {x : Int64} (h : gL σ a ci k = some x) : oF σ a ci k = some (.long x) := by
  unfold gL at h
  split at h
  · rename_i y hy; cases h; exact hy
  · cases h
theorem gR_v {x : Nat} (h : gR σ a ci k = some x) : oF σ a ci k = some (.ref x) := by
  unfold gR at h
  split at h
  · rename_i y hy; cases h; exact hy
  · cases h
theorem sx_put {index : Nat} {ft : FieldType} {v : Value} (C : Cx g p s m meth c cc nL own) (hs : HS g s σ sz H locs) (F : FieldPut own index ci k ft) (hn : narrow ft v = v) (hf : fits ft v = true) (he : pF σ a ci k v = some σ1) (hdg : decode cc pc = .ok (.putfield index, 3))
    (kk : ∀ (H1 : Heap) (locs1 : List Loc), HS g s σ1 sz H1 locs1 → W p l e R s m args below meth c H1 locs1 cells slots Q (F0 m (pc + 3) ls rest)) : W p l e R s m args below meth c H locs cells slots Q (F0 m pc ls (v :: .ref a :: rest)) := by
  obtain ⟨hx, hb, -, hown, ⟨hts, -, hK, -⟩, -⟩ := C
  obtain ⟨C, T, N, ty, ⟨hc, hk, hin, hty, hnm, hlk, hd⟩, hfin⟩ := F
  unfold pF at he
  split at he
  · rename_i c0 V hσ
    split at he
    · rename_i hcc
      subst hcc
      cases he
      have hts' : ∀ w ∈ GW, w.before args s = true := fun w hw => hts w hw args
      have hap := va_apart (own := own) hts' hin ty hty hnm hK hc
      obtain ⟨r, h1, cell, q1, q2, q3, q4⟩ := (hs.1 _ _ hσ).2
      cases Option.some.inj (h1.symm.trans hc)
      obtain ⟨hS, hfc, kC, hkC, hkind⟩ := hK.1 _ _ hc
      obtain ⟨cf, kf, fi, f, hi, hsl⟩ := hS k hk
      have hlay := hts' _ (hin _ (u_in_lay hk))
      unfold u_lay at hlay
      rw [if_neg (by rw [hfin]; decide)] at hlay
      have hst := (u_facts hfc hkC (u_lays hts' hin hk) hi).1
      have h6 := u_store hfc hkC hkind hlay hi hd hn hf
      refine W.putK hx hb (f := f) ⟨hown, hts' _ hlk, ⟨_, _, _, hi⟩, hst⟩ (by rw [q2]; exact h6) q1 q3 (by rw [hsl]; exact k2_hasslot (q4 k hk)) rfl rfl hdg fun H' e1 e2 e3 => ?_
      rw [hsl] at e1 ⊢
      exact kk H' _ ⟨hs.1.put (hs.1 _ _ hσ).1 ⟨_, hc, t_OB.to (V := updV V k v) ⟨_, e1, q2, q3, t_set q4 hap hk v⟩ (fun j _ => rfl)⟩ e3, e2.trans hs.2.1, hs.2.2.put e2 e3 (hs.1 _ _ hσ).1⟩
    · cases he
  · cases he
theorem sx_putF {index : Nat} {ft : FieldType} {v : Value} (C : Cx g p s m meth c cc nL own) (hs : HS g s σ sz H locs) (F : FieldIni own index ci k ft) (hin2 : meth.name = "<init>") (hn : narrow ft v = v) (hf : fits ft v = true) (he : pF σ a ci k v = some σ1) (hdg : decode cc pc = .ok (.putfield index, 3))
    (kk : ∀ (H1 : Heap) (locs1 : List Loc), HS g s σ1 sz H1 locs1 → W p l e R s m args below meth c H1 locs1 cells slots Q (F0 m (pc + 3) ls rest)) : W p l e R s m args below meth c H locs cells slots Q (F0 m pc ls (v :: .ref a :: rest)) := by
  obtain ⟨hx, hb, -, hown, ⟨hts, -, hK, -⟩, -⟩ := C
  obtain ⟨C, T, N, ty, ⟨hc, hk, hin, hty, hnm, hlk, hd⟩, hfin, hdecl⟩ := F
  unfold pF at he
  split at he
  · rename_i c0 V hσ
    split at he
    · rename_i hcc
      subst hcc
      cases he
      have hts' : ∀ w ∈ GW, w.before args s = true := fun w hw => hts w hw args
      have hap := va_apart (own := own) hts' hin ty hty hnm hK hc
      obtain ⟨r, h1, cell, q1, q2, q3, q4⟩ := (hs.1 _ _ hσ).2
      cases Option.some.inj (h1.symm.trans hc)
      obtain ⟨hS, hfc, kC, hkC, hkind⟩ := hK.1 _ _ hc
      obtain ⟨cf, kf, fi, f, hi, hsl⟩ := hS k hk
      have hlay := hts' _ (hin _ (u_in_lay hk))
      unfold u_lay at hlay
      rw [if_pos hfin] at hlay
      have hst := (u_facts hfc hkC (u_lays hts' hin hk) hi).1
      have hcf : m.cls = cf := by
        obtain ⟨_, _, c', _, _, _, -, -, hf', -, -, -, hown2, -⟩ := Cond.laysFinal_spec hlay
        have e1 : c' = cf := by have := hi.symm.trans hf'; simp at this; exact this.1.symm
        rw [hdecl] at hown2
        rw [← e1]; exact Option.some.inj (hown.symm.trans hown2)
      have h6 := u_fits hfc hkC hkind (Or.inr hlay) hi hd hn hf
      refine W.putFinK hx hb hown (hts' _ hlk) hi hst hcf hin2 (by rw [q2]; exact h6) q1 q3 (by rw [hsl]; exact k2_hasslot (q4 k hk)) rfl rfl hdg fun H' e1 e2 e3 => ?_
      rw [hsl] at e1 ⊢
      exact kk H' _ ⟨hs.1.put (hs.1 _ _ hσ).1 ⟨_, hc, t_OB.to (V := updV V k v) ⟨_, e1, q2, q3, t_set q4 hap hk v⟩ (fun j _ => rfl)⟩ e3, e2.trans hs.2.1, hs.2.2.put e2 e3 (hs.1 _ _ hσ).1⟩
    · cases he
  · cases he
/-! arrays -/
theorem aE_v {n : Nat} {f : Cn} (h : aE σ a k = some (n, f)) : σ a = some (.inr (k, n, f)) := by
  unfold aE at h
  split at h
  · rename_i t n' f' hσ
    split at h
    · rename_i hk; subst hk; cases h; exact hσ
    · cases h
  · cases h
theorem aI_v {i x : Int32} (h : aI σ a k i = some x) : ∃ n f, σ a = some (.inr (k, n, .inl f)) ∧ vp_in i n ∧ f i.toNatClampNeg = x := by
  unfold aI at h
  split at h
  · rename_i n f hf
    split at h
    · rename_i hi; cases h; exact ⟨n, f, aE_v hf, inB_vp hi, rfl⟩
    · cases h
  · cases h
theorem aL_v {i : Int32} {x : Int64} (h : aL σ a k i = some x) : ∃ n f, σ a = some (.inr (k, n, .inr (.inl f))) ∧ vp_in i n ∧ f i.toNatClampNeg = x := by
  unfold aL at h
  split at h
  · rename_i n f hf
    split at h
    · rename_i hi; cases h; exact ⟨n, f, aE_v hf, inB_vp hi, rfl⟩
    · cases h
  · cases h
theorem aQ_v {i : Int32} {x : Option Nat} (h : aQ σ a k i = some x) : ∃ n f, σ a = some (.inr (k, n, .inr (.inr f))) ∧ vp_in i n ∧ f i.toNatClampNeg = x := by
  unfold aQ at h
  split at h
  · rename_i n f hf
    split at h
    · rename_i hi; cases h; exact ⟨n, f, aE_v hf, inB_vp hi, rfl⟩
    · cases h
  · cases h
theorem sI_v {i x : Int32} (h : sI σ a k i x = some σ1) : ∃ n f, σ a = some (.inr (k, n, .inl f)) ∧ vp_in i n ∧ va_up σ a (some (.inr (k, n, .inl (va_up f i.toNatClampNeg x)))) = σ1 := by
  unfold sI at h
  split at h
  · rename_i n f hf
    split at h
    · rename_i hi; cases h; exact ⟨n, f, aE_v hf, inB_vp hi, rfl⟩
    · cases h
  · cases h
theorem sL_v {i : Int32} {x : Int64} (h : sL σ a k i x = some σ1) : ∃ n f, σ a = some (.inr (k, n, .inr (.inl f))) ∧ vp_in i n ∧ va_up σ a (some (.inr (k, n, .inr (.inl (va_up f i.toNatClampNeg x))))) = σ1 := by
  unfold sL at h
  split at h
  · rename_i n f hf
    split at h
    · rename_i hi; cases h; exact ⟨n, f, aE_v hf, inB_vp hi, rfl⟩
    · cases h
  · cases h
theorem isO_v {x : Unit} (h : isO σ a ci = some x) : ∃ V, σ a = some (.inl (ci, V)) := by
  unfold isO at h
  split at h
  · rename_i c0 V hσ
    split at h
    · rename_i hc; subst hc; exact ⟨V, hσ⟩
    · cases h
  · cases h
theorem sQ_v {i : Int32} {v : Nat} (h : sQ σ a k i v = some σ1) : ∃ V n f, σ v = some (.inl (tgC k, V)) ∧ σ a = some (.inr (k, n, .inr (.inr f))) ∧ vp_in i n ∧ va_up σ a (some (.inr (k, n, .inr (.inr (va_up f i.toNatClampNeg (some v)))))) = σ1 := by
  unfold sQ at h
  split at h
  · rename_i u hu
    obtain ⟨V, hV⟩ := isO_v hu
    split at h
    · rename_i n f hf
      split at h
      · rename_i hi; cases h; exact ⟨V, n, f, hV, aE_v hf, inB_vp hi, rfl⟩
      · cases h
    · cases h
  · cases h
theorem arrIn {cA : ClassId} {n : Nat} {f : Nat → Value} {i : Int32} (hin : vp_in i n) : ¬ (i < 0 ∨ (arrV cA n f).slots.size ≤ i.toNatClampNeg) := by rw [arrV_size]; exact hin
theorem arrAt {cA : ClassId} {n : Nat} {f : Nat → Value} {i : Int32} (hin : vp_in i n) : (arrV cA n f).slots[i.toNatClampNeg]? = some (f i.toNatClampNeg) := arrV_read _ _ (Nat.not_le.mp fun q => hin (Or.inr q))
theorem HS.arr {n : Nat} {f : Cn} (hs : HS g s σ sz H locs) (h : σ a = some (.inr (k, n, f))) : H[a]? = some (arrV (g.2.1 k) n (cnv f)) := (hs.1 _ _ h).2
theorem Gd.of {U : State} {H0 : Heap} (h : Gd g U H0) {k : Nat} (hk : k < 8) (n : Nat) (z : Nat → Value) : U.isArrayOf (arrV (g.2.1 k) n z) (tgT k) := (h.2.2.1.2 k _ (gTys_at g hk)).1 n z
theorem sx_iald {i x : Int32} (C : Cx g p s m meth c cc nL own) (hs : HS g s σ sz H locs) (he : aI σ a 1 i = some x) (hdg : decode cc pc = .ok (.iaload, 1))
    (kk : W p l e R s m args below meth c H locs cells slots Q (F0 m (pc + 1) ls (.int x :: rest))) : W p l e R s m args below meth c H locs cells slots Q (F0 m pc ls (.int i :: .ref a :: rest)) := by
  obtain ⟨n, f, h1, h2, rfl⟩ := aI_v he
  exact W.iald (v := .int (f i.toNatClampNeg)) C.1 C.2.1 (hs.arr h1) (C.2.2.2.2.1.of (k := 1) (by decide) _ _) (fun q => by cases q) (arrIn h2) (arrAt h2) rfl rfl hdg kk
theorem sx_cald {i x : Int32} (C : Cx g p s m meth c cc nL own) (hs : HS g s σ sz H locs) (he : aI σ a 0 i = some x) (hdg : decode cc pc = .ok (.caload, 1))
    (kk : W p l e R s m args below meth c H locs cells slots Q (F0 m (pc + 1) ls (.int x :: rest))) : W p l e R s m args below meth c H locs cells slots Q (F0 m pc ls (.int i :: .ref a :: rest)) := by
  obtain ⟨n, f, h1, h2, rfl⟩ := aI_v he
  exact W.cald (v := .int (f i.toNatClampNeg)) C.1 C.2.1 (hs.arr h1) (C.2.2.2.2.1.of (k := 0) (by decide) _ _) (fun q => by cases q) (arrIn h2) (arrAt h2) rfl rfl hdg kk
theorem sx_zald {i x : Int32} (C : Cx g p s m meth c cc nL own) (hs : HS g s σ sz H locs) (he : aI σ a 3 i = some x) (hdg : decode cc pc = .ok (.baload, 1))
    (kk : W p l e R s m args below meth c H locs cells slots Q (F0 m (pc + 1) ls (.int x :: rest))) : W p l e R s m args below meth c H locs cells slots Q (F0 m pc ls (.int i :: .ref a :: rest)) := by
  obtain ⟨n, f, h1, h2, rfl⟩ := aI_v he
  exact W.zald (v := .int (f i.toNatClampNeg)) C.1 C.2.1 (hs.arr h1) (C.2.2.2.2.1.of (k := 3) (by decide) _ _) (fun q => by cases q) (arrIn h2) (arrAt h2) rfl rfl hdg kk
theorem sx_lald {i : Int32} {x : Int64} (C : Cx g p s m meth c cc nL own) (hs : HS g s σ sz H locs) (he : aL σ a 2 i = some x) (hdg : decode cc pc = .ok (.laload, 1))
    (kk : W p l e R s m args below meth c H locs cells slots Q (F0 m (pc + 1) ls (.long x :: rest))) : W p l e R s m args below meth c H locs cells slots Q (F0 m pc ls (.int i :: .ref a :: rest)) := by
  obtain ⟨n, f, h1, h2, rfl⟩ := aL_v he
  exact W.lald (v := .long (f i.toNatClampNeg)) C.1 C.2.1 (hs.arr h1) (C.2.2.2.2.1.of (k := 2) (by decide) _ _) (fun q => by cases q) (arrIn h2) (arrAt h2) rfl rfl hdg kk
theorem sx_aald {i : Int32} {x : Option Nat} (C : Cx g p s m meth c cc nL own) (hs : HS g s σ sz H locs) (hk : k < 8) (hr : (tgT k).isReference = true) (he : aQ σ a k i = some x) (hdg : decode cc pc = .ok (.aaload, 1))
    (kk : W p l e R s m args below meth c H locs cells slots Q (F0 m (pc + 1) ls (va_rf x :: rest))) : W p l e R s m args below meth c H locs cells slots Q (F0 m pc ls (.int i :: .ref a :: rest)) := by
  obtain ⟨n, f, h1, h2, rfl⟩ := aQ_v he
  exact W.aald (v := va_rf (f i.toNatClampNeg)) C.1 C.2.1 (hs.arr h1) (C.2.2.2.2.1.of hk _ _) hr (fun q => by cases q) (arrIn h2) (arrAt h2) rfl rfl hdg kk
theorem HS.putA {n : Nat} {f f' : Cn} {H1 : Heap} {j : Nat} (hs : HS g s σ sz H locs) (h : σ a = some (.inr (k, n, f))) (he : H1[a]? = some (arrV (g.2.1 k) n (cnv f'))) (z : H1.size = H.size) (oq : ∀ q : Nat, q ≠ a → H1[q]? = H[q]?) : HS g s (va_up σ a (some (.inr (k, n, f')))) sz H1 (locs ++ [⟨a, j⟩]) :=
  ⟨hs.1.put (hs.1 _ _ h).1 he oq, z.trans hs.2.1, hs.2.2.put z oq (hs.1 _ _ h).1⟩
theorem sx_iast {i x : Int32} (C : Cx g p s m meth c cc nL own) (hs : HS g s σ sz H locs) (he : sI σ a 1 i x = some σ1) (hdg : decode cc pc = .ok (.iastore, 1))
    (kk : ∀ (H1 : Heap) (locs1 : List Loc), HS g s σ1 sz H1 locs1 → W p l e R s m args below meth c H1 locs1 cells slots Q (F0 m (pc + 1) ls rest)) : W p l e R s m args below meth c H locs cells slots Q (F0 m pc ls (.int x :: .int i :: .ref a :: rest)) := by
  obtain ⟨n, f, h1, h2, rfl⟩ := sI_v he
  refine W.iast C.1 C.2.1 (hs.arr h1) (C.2.2.2.2.1.of (k := 1) (by decide) _ _) (fun q => by cases q) (arrIn h2) rfl rfl hdg fun H1 e z oq => ?_
  refine kk H1 _ (hs.putA h1 ?_ z oq)
  rw [e, arrV_store]
  congr 2
  funext q
  by_cases hq : q = i.toNatClampNeg
  · subst hq
    simp [updV, va_up, cnv]
  · simp [updV, va_up, cnv, hq]
theorem sx_cast {i x : Int32} (C : Cx g p s m meth c cc nL own) (hs : HS g s σ sz H locs) (he : sI σ a 0 i (nC x) = some σ1) (hdg : decode cc pc = .ok (.castore, 1))
    (kk : ∀ (H1 : Heap) (locs1 : List Loc), HS g s σ1 sz H1 locs1 → W p l e R s m args below meth c H1 locs1 cells slots Q (F0 m (pc + 1) ls rest)) : W p l e R s m args below meth c H locs cells slots Q (F0 m pc ls (.int x :: .int i :: .ref a :: rest)) := by
  obtain ⟨n, f, h1, h2, rfl⟩ := sI_v he
  refine W.cast C.1 C.2.1 (hs.arr h1) (C.2.2.2.2.1.of (k := 0) (by decide) _ _) (fun q => by cases q) (arrIn h2) rfl rfl hdg fun H1 e z oq => ?_
  refine kk H1 _ (hs.putA h1 ?_ z oq)
  rw [e, arrV_store]
  congr 2
  funext q
  by_cases hq : q = i.toNatClampNeg
  · subst hq
    simp [updV, va_up, cnv, nC, vp_nar]
    try rfl
  · simp [updV, va_up, cnv, hq]
theorem sx_zast {i x : Int32} (C : Cx g p s m meth c cc nL own) (hs : HS g s σ sz H locs) (he : sI σ a 3 i (nZ x) = some σ1) (hdg : decode cc pc = .ok (.bastore, 1))
    (kk : ∀ (H1 : Heap) (locs1 : List Loc), HS g s σ1 sz H1 locs1 → W p l e R s m args below meth c H1 locs1 cells slots Q (F0 m (pc + 1) ls rest)) : W p l e R s m args below meth c H locs cells slots Q (F0 m pc ls (.int x :: .int i :: .ref a :: rest)) := by
  obtain ⟨n, f, h1, h2, rfl⟩ := sI_v he
  refine W.zast C.1 C.2.1 (hs.arr h1) (C.2.2.2.2.1.of (k := 3) (by decide) _ _) (fun q => by cases q) (arrIn h2) rfl rfl hdg fun H1 e z oq => ?_
  refine kk H1 _ (hs.putA h1 ?_ z oq)
  rw [e, arrV_store]
  congr 2
  funext q
  by_cases hq : q = i.toNatClampNeg
  · subst hq
    simp [updV, va_up, cnv, nZ, vp_nar]
    try rfl
  · simp [updV, va_up, cnv, hq]
theorem sx_last {i : Int32} {x : Int64} (C : Cx g p s m meth c cc nL own) (hs : HS g s σ sz H locs) (he : sL σ a 2 i x = some σ1) (hdg : decode cc pc = .ok (.lastore, 1))
    (kk : ∀ (H1 : Heap) (locs1 : List Loc), HS g s σ1 sz H1 locs1 → W p l e R s m args below meth c H1 locs1 cells slots Q (F0 m (pc + 1) ls rest)) : W p l e R s m args below meth c H locs cells slots Q (F0 m pc ls (.long x :: .int i :: .ref a :: rest)) := by
  obtain ⟨n, f, h1, h2, rfl⟩ := sL_v he
  refine W.last C.1 C.2.1 (hs.arr h1) (C.2.2.2.2.1.of (k := 2) (by decide) _ _) (fun q => by cases q) (arrIn h2) rfl rfl hdg fun H1 e z oq => ?_
  refine kk H1 _ (hs.putA h1 ?_ z oq)
  rw [e, arrV_store]
  congr 2
  funext q
  by_cases hq : q = i.toNatClampNeg
  · subst hq
    simp [updV, va_up, cnv]
  · simp [updV, va_up, cnv, hq]
theorem sx_aast {i : Int32} {v : Nat} {r : vw_C} (C : Cx g p s m meth c cc nL own) (hs : HS g s σ sz H locs) (hk : k < 8) (hc : scl[tgC k]? = some r) (hty : tgT k = .object r.1) (he : sQ σ a k i v = some σ1) (hdg : decode cc pc = .ok (.aastore, 1))
    (kk : ∀ (H1 : Heap) (locs1 : List Loc), HS g s σ1 sz H1 locs1 → W p l e R s m args below meth c H1 locs1 cells slots Q (F0 m (pc + 1) ls rest)) : W p l e R s m args below meth c H locs cells slots Q (F0 m pc ls (.ref v :: .int i :: .ref a :: rest)) := by
  obtain ⟨V, n, f, hv, h1, h2, rfl⟩ := sQ_v he
  have h0 : ¬ i < 0 := fun q => h2 (Or.inl q)
  have hlt : i.toNatClampNeg < n := Nat.not_le.mp fun q => h2 (Or.inr q)
  have hK := C.2.2.2.2.1.2.2.1
  obtain ⟨r', hr', cellV, g1, g2, g3, -⟩ := (hs.1 _ _ hv).2
  have hcls := (hK.1 _ r hc).2
  have hra := (hK.2 k _ (gTys_at g hk)).2
  rw [show ((g.2.1 k, tgT k) : ClassId × FieldType).2 = FieldType.object r.1 from hty] at hra
  obtain ⟨kA, comp, k1, k2, k3, -⟩ := hra
  have hcomp : comp = g.1.1 (tgC k) := Option.some.inj (k3.symm.trans hcls.1)
  subst hcomp
  obtain ⟨kC, hkC, -⟩ := hcls.2
  refine W.aast C.1 C.2.1 (hs.arr h1) (fun q h => by cases h) (fun h => by cases h) k1 k2 rfl hkC ⟨h0, by show _ < (arrV _ _ _).slots.size; rw [arrV_size]; exact hlt⟩ g1 (fun q h => by rw [g3] at h; cases h) (by rw [g2]; exact hkC) (by rw [g2]; exact va_assign hcls) rfl rfl hdg fun H1 e z oq => ?_
  refine kk H1 _ (hs.putA h1 ?_ z oq)
  rw [e, arrV_store]
  congr 2
  funext q
  by_cases hq : q = i.toNatClampNeg
  · subst hq
    simp [updV, va_up, cnv, va_rf]
  · simp [updV, va_up, cnv, hq]
theorem sx_alen {x : Int32} (C : Cx g p s m meth c cc nL own) (hs : HS g s σ sz H locs) (hk : k < 8) (he : aN σ a k = some x) (hdg : decode cc pc = .ok (.arraylength, 1))
    (kk : W p l e R s m args below meth c H locs cells slots Q (F0 m (pc + 1) ls (.int x :: rest))) : W p l e R s m args below meth c H locs cells slots Q (F0 m pc ls (.ref a :: rest)) := by
  unfold aN at he
  split at he
  · rename_i n f hf
    cases he
    exact W.alen (n := Int32.ofNat n) C.1 C.2.1 (hs.arr (aE_v hf)) (C.2.2.2.2.1.of hk _ _) (by rw [arrV_size] <;> rfl) rfl rfl hdg kk
  · cases he
/-! the table of powers -/
theorem sx_pw {index : Nat} (C : Cx g p s m meth c cc nL own) (hs : HS g s σ sz H locs) (hl : Cond.fieldLink own index "Tillhouse$Reckoning" "POWERS" "[J" ∈ GW) (hdg : decode cc pc = .ok (.getstatic index, 3))
    (kk : W p l e R s m args below meth c H locs cells slots Q (F0 m (pc + 3) ls (.ref g.2.2.1 :: rest))) : W p l e R s m args below meth c H locs cells slots Q (F0 m pc ls rest) :=
  va_gets C.1 C.2.1 C.2.2.2.2.1.2.2.2.1.1 hs.2.2 C.2.2.2.1 (C.2.2.2.2.1.1 _ hl args) (fun _ h => h) hdg kk
theorem sx_pwl {i : Int32} {x : Int64} (C : Cx g p s m meth c cc nL own) (hs : HS g s σ sz H locs) (he : pw i = some x) (hdg : decode cc pc = .ok (.laload, 1))
    (kk : W p l e R s m args below meth c H locs cells slots Q (F0 m (pc + 1) ls (.long x :: rest))) : W p l e R s m args below meth c H locs cells slots Q (F0 m pc ls (.int i :: .ref g.2.2.1 :: rest)) := by
  unfold pw at he
  split at he
  · rename_i hi
    cases he
    exact va_tl C.1 C.2.1 C.2.2.2.2.1.2.2.2.1.2 hs.2.2 (inB_vp hi) rfl hdg kk
  · cases he
/-! what is made -/
def NewOk (own : String) (index ci N : Nat) (V0 : Nat → Value) : Prop := ∃ (C : String) (T : u_T) (ty : Nat → FieldType), scl[ci]? = some (C, T, N) ∧ (∀ w ∈ u_ws C T N, w ∈ GW) ∧ (∀ k, k < N → parseFieldDescriptor (T k).2.2.1 = some (ty k)) ∧ (∀ j, j < N → defaultValue (ty j) = V0 j) ∧ Cond.classLink own index C ∈ GW ∧ Cond.instantiable C N ∈ GW ∧ Cond.initialized C ∈ GW
theorem HS.new {x : Ent} {H1 : Heap} (hb0 : g.2.2.2 ≤ s.heap.size) (hs : HS g s σ sz H locs) (he : eAt g sz x H1) (z : H1.size = H.size + 1) (o1 : ∀ q : Nat, q < H.size → H1[q]? = H[q]?) : HS g s (va_up σ sz (some x)) (sz + 1) H1 locs := by
  obtain ⟨h1, rfl, h3⟩ := hs
  exact ⟨h1.add (Nat.le_trans hb0 h3.1) rfl he o1, z, ⟨Nat.le_trans h3.1 (by omega), fun x h1 h2 => (o1 x (Nat.lt_of_lt_of_le h1 h3.1)).trans (h3.2.1 x h1 h2), h3.2.2⟩⟩
theorem sx_new {index N : Nat} {V0 : Nat → Value} (C : Cx g p s m meth c cc nL own) (hs : HS g s σ sz H locs) (F : NewOk own index ci N V0) (hcells : cells + 1 ≤ R.cells) (hslots : slots + N ≤ R.slots) (hdg : decode cc pc = .ok (.new index, 3))
    (kk : ∀ (H1 : Heap), HS g s (va_up σ sz (some (.inl (ci, V0)))) (sz + 1) H1 locs → W p l e R s m args below meth c H1 locs (cells + 1) (slots + N) Q (F0 m (pc + 3) ls (.ref sz :: rest))) : W p l e R s m args below meth c H locs cells slots Q (F0 m pc ls rest) := by
  obtain ⟨hx, hb, -, hown, ⟨hts, -, hK, -⟩, -, hb0⟩ := C
  obtain ⟨C, T, ty, hc, hin, hty, hfs, hcl, hinst, hini⟩ := F
  have hKn := hK.1 _ _ hc
  have hz := hs.2.1
  refine W.newcK hx hb hown (hts _ hcl args) (hts _ hinst args) (hts _ hini args) rfl hdg hcells hslots hKn.2.1 hz fun H1 kC hkC e1 z1 o1 => ?_
  refine kk H1 (hs.new hb0 ⟨_, hc, (u_born ty (ws := GW) (args := args) (fun w hw => hts w hw args) hin hKn hkC e1 hty).to hfs⟩ (by rw [hz]; exact z1) (fun q hq => o1 q (by rw [← hz]; exact hq)))
theorem sx_newa {atype : ArrayType} {n : Int32} {N : Nat} {f : Cn} (C : Cx g p s m meth c cc nL own) (hs : HS g s σ sz H locs) (hk : k < 4) (hty : newarray.typeOf atype = tgT k) (hw : Cond.arrayClass (newarray.typeOf atype) ∈ GW) (hf : ∀ j, cnv f j = defaultValue (tgT k)) (hn : ¬ n < 0) (hN : n.toNatClampNeg = N) (hbytes : N * 8 ≤ 536870912) (hcells : cells + 1 ≤ R.cells) (hslots : slots + N ≤ R.slots) (hdg : decode cc pc = .ok (.newarray atype, 2))
    (kk : ∀ (H1 : Heap), HS g s (va_up σ sz (some (.inr (k, N, f)))) (sz + 1) H1 locs → W p l e R s m args below meth c H1 locs (cells + 1) (slots + N) Q (F0 m (pc + 2) ls (.ref sz :: rest))) : W p l e R s m args below meth c H locs cells slots Q (F0 m pc ls (.int n :: rest)) := by
  obtain ⟨hx, hb, -, hown, ⟨hts, -, hK, -⟩, -, hb0⟩ := C
  have hz := hs.2.1
  have hcb : componentBytes (newarray.typeOf atype) ≤ 8 := by rw [hty]; rcases (show k = 0 ∨ k = 1 ∨ k = 2 ∨ k = 3 by omega) with rfl | rfl | rfl | rfl <;> decide
  refine va_newaK hx hb (hts _ hw args) rfl hdg rfl hn hN (Nat.le_trans (Nat.mul_le_mul_left _ hcb) hbytes) hcells hslots hz fun H1 cA e1 z1 o1 hAr hNm => ?_
  have hra := (hK.2 k _ (gTys_at g (by omega))).2
  have hcA : cA = g.2.1 k := by
    rw [hty] at hNm
    rcases (show k = 0 ∨ k = 1 ∨ k = 2 ∨ k = 3 by omega) with rfl | rfl | rfl | rfl <;> exact Option.some.inj (hNm.symm.trans hra)
  subst hcA
  refine kk H1 (hs.new hb0 ?_ (by rw [hz]; exact z1) (fun q hq => o1 q (by rw [← hz]; exact hq)))
  show H1[sz]? = some (arrV (g.2.1 k) N (cnv f))
  rw [e1, hty]
  congr 2
  funext j
  exact (hf j).symm
theorem sx_newq {index : Nat} {C0 : String} {n : Int32} {N : Nat} (C : Cx g p s m meth c cc nL own) (hs : HS g s σ sz H locs) (hk : k < 8) (hty : tgT k = .object C0) (hcl : Cond.classLink own index C0 ∈ GW) (hw : Cond.arrayOver (.object C0) ∈ GW) (hn : ¬ n < 0) (hN : n.toNatClampNeg = N) (hbytes : N * 4 ≤ 536870912) (hcells : cells + 1 ≤ R.cells) (hslots : slots + N ≤ R.slots) (hdg : decode cc pc = .ok (.anewarray index, 3))
    (kk : ∀ (H1 : Heap), HS g s (va_up σ sz (some (.inr (k, N, .inr (.inr (fun _ => none)))))) (sz + 1) H1 locs → W p l e R s m args below meth c H1 locs (cells + 1) (slots + N) Q (F0 m (pc + 3) ls (.ref sz :: rest))) : W p l e R s m args below meth c H locs cells slots Q (F0 m pc ls (.int n :: rest)) := by
  obtain ⟨hx, hb, -, hown, ⟨hts, -, hK, -⟩, -, hb0⟩ := C
  have hz := hs.2.1
  subst hN
  refine W.anew hx hb hown (hts _ hcl args) (hts _ hw args) rfl hdg rfl hn hbytes hcells hslots fun cA kA comp f1 f2 f3 f4 => ?_
  generalize hH1 : H.push ({ cls := cA, slots := Array.replicate n.toNatClampNeg .null, vm := .none } : Cell) = H1
  have z1 : H1.size = H.size + 1 := by rw [← hH1, Array.size_push]
  have e1 : H1[H.size]? = some (arrV cA n.toNatClampNeg (fun _ => .null)) := by rw [← hH1, Array.getElem?_push_size, ← arrV_new]
  have o1 : ∀ q : Nat, q < H.size → H1[q]? = H[q]? := fun q hq => by rw [← hH1, Array.getElem?_push, if_neg (Nat.ne_of_lt hq)]
  have hra := (hK.2 k _ (gTys_at g hk)).2
  rw [show ((g.2.1 k, tgT k) : ClassId × FieldType).2 = FieldType.object C0 from hty] at hra
  obtain ⟨kA', comp', k1, k2, k3, k4⟩ := hra
  have hcA : cA = g.2.1 k := Option.some.inj (f1.symm.trans k4)
  subst hcA
  rw [hz]
  refine kk H1 (hs.new hb0 ?_ z1 o1)
  show H1[sz]? = some (arrV (g.2.1 k) _ _)
  rw [← hz]
  exact e1
/-! calls -/
abbrev Mp (y : MethodName) (np : Nat) : Prop := y.cls ≠ "java/lang/invoke/MethodHandle" ∧ y.cls ≠ "java/lang/invoke/VarHandle" ∧ (parseMethodDescriptor y.desc).map (fun d => d.parameters.length) = some np
/-- a method that is there -/
def MthV (C : String) (y : MethodName) (b : ByteArray) (n : Nat) (ret : Option FieldType) (np : Nat) : Prop := Cond.instanceMethod y ∈ GW ∧ Cond.selects C y y ∈ GW ∧ Cond.initialized y.cls ∈ GW ∧ Cond.code y b n ret ∈ GW ∧ Mp y np
def MthS (y : MethodName) (b : ByteArray) (n : Nat) (ret : Option FieldType) (np : Nat) : Prop := Cond.static y ∈ GW ∧ Cond.initialized y.cls ∈ GW ∧ Cond.code y b n ret ∈ GW ∧ Mp y np
def MthI (y : MethodName) (b : ByteArray) (n : Nat) (np : Nat) : Prop := Cond.instanceMethod y ∈ GW ∧ Cond.initialized y.cls ∈ GW ∧ Cond.code y b n none ∈ GW ∧ Mp y np ∧ y.name = "<init>"
abbrev rmk (fr mc ms lo : Nat) : Room := { frames := fr, cells := mc, slots := ms, locals := lo }
theorem pay1 {s : State} {args : Array Value} {w : Cond} (hw : w ∈ GW) (h : w.before args s = true) : ∀ w' ∈ [w], ∀ (a' : Array Value) (U : State), s.WarmedH U.vm → w'.before a' U = true := by
  intro w' h' a' U hW
  rw [List.mem_singleton.mp h']
  exact okW_tr (GW_ok hw) hW h
theorem Mp.len {y : MethodName} {np : Nat} (h : Mp y np) : ∀ sig, parseMethodDescriptor y.desc = some sig → np = sig.parameters.length := by
  intro sig hs
  have h2 := h.2.2
  rw [hs] at h2
  exact (Option.some.inj h2).symm
theorem Pre.at {As : List Value} (C : Cx g p s m meth c cc nL own) (hs : HS g s σ sz H locs) : ∀ U : State, U.heap = H → s.WarmedH U.vm → Pre g σ sz As As.toArray U := by
  intro U hU hW
  obtain ⟨-, -, -, -, hG, -, hb0⟩ := C
  obtain ⟨h1, h2, h3⟩ := hs
  refine ⟨rfl, hG.tr hW (fun a h4 h5 => ?_), by rw [hU]; exact h1, by rw [hU]; exact h2, by rw [← h2]; exact Nat.le_trans hb0 h3.1⟩
  rw [hU]
  exact h3.2.1 a h4 h5
theorem recvO {C0 : String} {T : u_T} {N : Nat} {b : Nat} (C : Cx g p s m meth c cc nL own) (hs : HS g s σ sz H locs) (ho : isO σ b ci = some ()) (hc : scl[ci]? = some (C0, T, N)) : ∃ cellB : Cell, H[b]? = some cellB ∧ cellB.vm.isStatics = false ∧ s.vm.findClass C0 = some cellB.cls := by
  obtain ⟨V, hV⟩ := isO_v ho
  obtain ⟨r, h1, cell, q1, q2, q3, -⟩ := (hs.1 _ _ hV).2
  cases Option.some.inj (h1.symm.trans hc)
  refine ⟨cell, q1, by rw [q3]; rfl, ?_⟩
  rw [q2]
  exact (C.2.2.2.2.1.2.2.1.1 _ _ hc).2.1
variable {y : MethodName} {b : ByteArray} {n np index fr mc ms lo : Nat} {ret : Option FieldType} {As : List Value} {vr : Option Value} {rr : Nat ⊕ Option Value}
theorem sx_after (hr : va_Run p l e R s m args below meth c H locs cells slots mc ms (F0 m pc ls st0) rest (Pst g vr σ1 sz1 As.toArray) (Aw g)) (hs : HS g s σ sz H locs)
    (kk : ∀ (H1 : Heap) (locs1 : List Loc), HS g s σ1 sz1 H1 locs1 → W p l e R s m args below meth c H1 locs1 (cells + mc) (slots + ms) Q (F0 m (pc + 3) ls (vr.toList ++ rest))) : W p l e R s m args below meth c H locs cells slots Q (F0 m pc ls st0) := by
  intro T hT X
  obtain ⟨v, st₀, t, T', L, h0, X', hL, e1, e2, ⟨hv, h1, h2, hF⟩, st⟩ := hr T hT X
  cases hv
  obtain ⟨-, -, k3⟩ := vx_keep (A1 := Aw g) h0 e1 hs.2.2 (fun q _ h => h) (fun q h => h) hL hF
  obtain ⟨t2, a1, b1⟩ := kk T'.heap (locs ++ L) ⟨by rw [e1]; exact h1, by rw [e1]; exact h2, k3⟩ T' rfl X'
  exact ⟨t2, st t2 a1, b1⟩
/-- the frame of a call: room and place -/
abbrev Fits (R : Room) (fr n lo cells mc slots ms : Nat) : Prop := (fr + 1 ≤ R.frames ∧ 8 + (n + 11) + lo ≤ R.locals) ∧ cells + mc ≤ R.cells ∧ slots + ms ≤ R.slots
theorem sx_callV {C0 : String} {T : u_T} {N b0 : Nat} (C : Cx g p s m meth c cc nL own) (hs : HS g s σ sz H locs) (M : Met l y [Cond.code y b n ret] (rmk fr mc ms lo) (Pre g σ sz (Value.ref b0 :: As)) (Pst g vr σ1 sz1) mc ms (Aw g)) (O : MthV C0 y b n ret np) (hl : Cond.methodLink own index y ∈ GW)
    (ho : isO σ b0 ci = some ()) (hc : scl[ci]? = some (C0, T, N)) (hn : As.length = np) (hsz : ls.size = nL) (hF : Fits R fr n lo cells mc slots ms) (hst : st0 = As.reverse ++ .ref b0 :: rest) (hw : (rest.map fun v => v.category).sum ≤ 8) (hdg : decode cc pc = .ok (.invokevirtual index, 3))
    (kk : ∀ (H1 : Heap) (locs1 : List Loc), HS g s σ1 sz1 H1 locs1 → W p l e R s m args below meth c H1 locs1 (cells + mc) (slots + ms) Q (F0 m (pc + 3) ls (vr.toList ++ rest))) : W p l e R s m args below meth c H locs cells slots Q (F0 m pc ls st0) := by
  have hts : ∀ w ∈ GW, w.before args s = true := fun w hw => C.2.2.2.2.1.1 w hw args
  obtain ⟨o1, o2, o3, o4, o5⟩ := O
  exact sx_after (As := Value.ref b0 :: As) (va_runV (As := As) (Ts := GW) (rest := rest) ⟨C.1, C.2.1, C.2.2.1, C.2.2.2.1, hts⟩ M ⟨⟨rfl, rfl, hF.1.1, hF.1.2, pay1 o4 (hts _ o4), List.mem_cons_self, hts _ o4, hts _ o3, ⟨o5.1, o5.2.1⟩, o5.len, hts _ hl⟩, hts _ o1, hts _ o2⟩ ⟨Pre.blind _ _ _ _, recvO C hs ho hc, Pre.at C hs⟩ rfl hn hsz hst (lv_room hw) hdg hF.2) hs kk
theorem sx_callS (C : Cx g p s m meth c cc nL own) (hs : HS g s σ sz H locs) (M : Met l y [Cond.code y b n ret] (rmk fr mc ms lo) (Pre g σ sz As) (Pst g vr σ1 sz1) mc ms (Aw g)) (O : MthS y b n ret np) (hl : Cond.methodLink own index y ∈ GW)
    (hn : As.length = np) (hsz : ls.size = nL) (hF : Fits R fr n lo cells mc slots ms) (hst : st0 = As.reverse ++ rest) (hw : (rest.map fun v => v.category).sum ≤ 8) (hdg : decode cc pc = .ok (.invokestatic index, 3))
    (kk : ∀ (H1 : Heap) (locs1 : List Loc), HS g s σ1 sz1 H1 locs1 → W p l e R s m args below meth c H1 locs1 (cells + mc) (slots + ms) Q (F0 m (pc + 3) ls (vr.toList ++ rest))) : W p l e R s m args below meth c H locs cells slots Q (F0 m pc ls st0) := by
  have hts : ∀ w ∈ GW, w.before args s = true := fun w hw => C.2.2.2.2.1.1 w hw args
  obtain ⟨o2, o3, o4, o5⟩ := O
  exact sx_after (As := As) (va_runS (As := As) (Ts := GW) (rest := rest) ⟨C.1, C.2.1, C.2.2.1, C.2.2.2.1, hts⟩ M ⟨⟨rfl, rfl, hF.1.1, hF.1.2, pay1 o4 (hts _ o4), List.mem_cons_self, hts _ o4, hts _ o3, ⟨o5.1, o5.2.1⟩, o5.len, hts _ hl⟩, hts _ o2⟩ ⟨Pre.blind _ _ _ _, Pre.at C hs⟩ rfl hn hsz hst (lv_room hw) hdg hF.2) hs kk
theorem sx_callI {b0 : Nat} (C : Cx g p s m meth c cc nL own) (hs : HS g s σ sz H locs) (M : Met l y [Cond.code y b n none] (rmk fr mc ms lo) (Pre g σ sz (Value.ref b0 :: As)) (Pst g none σ1 sz1) mc ms (Aw g)) (O : MthI y b n np) (hl : Cond.methodLink own index y ∈ GW)
    (hn : As.length = np) (hsz : ls.size = nL) (hF : Fits R fr n lo cells mc slots ms) (hst : st0 = As.reverse ++ .ref b0 :: rest) (hw : (rest.map fun v => v.category).sum ≤ 8) (hdg : decode cc pc = .ok (.invokespecial index, 3))
    (kk : ∀ (H1 : Heap) (locs1 : List Loc), HS g s σ1 sz1 H1 locs1 → W p l e R s m args below meth c H1 locs1 (cells + mc) (slots + ms) Q (F0 m (pc + 3) ls rest)) : W p l e R s m args below meth c H locs cells slots Q (F0 m pc ls st0) := by
  have hts : ∀ w ∈ GW, w.before args s = true := fun w hw => C.2.2.2.2.1.1 w hw args
  obtain ⟨o1, o3, o4, o5, o6⟩ := O
  exact sx_after (As := Value.ref b0 :: As) (va_runI (As := As) (Ts := GW) (rest := rest) ⟨C.1, C.2.1, C.2.2.1, C.2.2.2.1, hts⟩ M ⟨⟨rfl, rfl, hF.1.1, hF.1.2, pay1 o4 (hts _ o4), List.mem_cons_self, hts _ o4, hts _ o3, ⟨o5.1, o5.2.1⟩, o5.len, hts _ hl⟩, o6, hts _ o1⟩ ⟨Pre.blind _ _ _ _, Pre.at C hs⟩ rfl hn hsz hst (lv_room hw) hdg hF.2) hs kk
/-- a private constructor of a nest mate -/
theorem sx_callN {b0 : Nat} {host : String} (C : Cx g p s m meth c cc nL own) (hs : HS g s σ sz H locs) (M : Met l y [Cond.code y b n none] (rmk fr mc ms lo) (Pre g σ sz (Value.ref b0 :: As)) (Pst g none σ1 sz1) mc ms (Aw g)) (O : MthI y b n np) (hl : Cond.methodLinkNest own index y host ∈ GW)
    (hn : As.length = np) (hsz : ls.size = nL) (hF : Fits R fr n lo cells mc slots ms) (hst : st0 = As.reverse ++ .ref b0 :: rest) (hw : (rest.map fun v => v.category).sum ≤ 8) (hdg : decode cc pc = .ok (.invokespecial index, 3))
    (kk : ∀ (H1 : Heap) (locs1 : List Loc), HS g s σ1 sz1 H1 locs1 → W p l e R s m args below meth c H1 locs1 (cells + mc) (slots + ms) Q (F0 m (pc + 3) ls rest)) : W p l e R s m args below meth c H locs cells slots Q (F0 m pc ls st0) := by
  have hts : ∀ w ∈ GW, w.before args s = true := fun w hw => C.2.2.2.2.1.1 w hw args
  obtain ⟨o1, o3, o4, o5, o6⟩ := O
  exact sx_after (As := Value.ref b0 :: As) (va_runIN (As := As) (Ts := GW) (rest := rest) ⟨C.1, C.2.1, C.2.2.1, C.2.2.2.1, hts⟩ M ⟨⟨⟨rfl, rfl, hF.1.1, hF.1.2, pay1 o4 (hts _ o4), List.mem_cons_self⟩, hts _ o4, hts _ o3, ⟨o5.1, o5.2.1⟩, o5.len, hts _ hl⟩, o6, hts _ o1⟩ ⟨Pre.blind _ _ _ _, Pre.at C hs⟩ rfl hn hsz hst (lv_room hw) hdg hF.2) hs kk
/-! .. of what may throw -/
theorem sx_xafter (hr : vx_Run p l e R s m args below meth c H locs cells slots mc ms (F0 m pc ls st0) rest (PstX g rr σ1 sz1 As.toArray) (XpX g rr σ1 sz1) (Aw g)) (hs : HS g s σ sz H locs)
    (kx : ∀ k, rr = .inl k → ∀ (ce : Cell) (q9 : Addr) (H1 : Heap) (locs1 : List Loc), Hp g σ1 H1 → sz1 ≤ H1.size → va_S (Aw g) s.heap H1 locs1 → H1[q9]? = some ce → ce.vm = .none → s.vm.findClass (exN k) = some ce.cls → vx_W p l e R s m args below meth c H1 locs1 (cells + mc) (slots + ms) Q (F0 m pc ls rest) q9)
    (kk : ∀ vr, rr = .inr vr → ∀ (H1 : Heap) (locs1 : List Loc), HS g s σ1 sz1 H1 locs1 → W p l e R s m args below meth c H1 locs1 (cells + mc) (slots + ms) Q (F0 m (pc + 3) ls (vr.toList ++ rest))) : W p l e R s m args below meth c H locs cells slots Q (F0 m pc ls st0) := by
  intro T hT X
  rcases hr T hT X with ⟨v, st₀, t, T', L, h0, X', hL, e1, e2, ⟨vr, hr1, hv, h1, h2, hF⟩, st⟩ | ⟨q, st₀, t, T', L, E, ce, h0, X', hL, e1, e2, ⟨k, hr1, rfl, h1, h2, hF⟩, hce, hcv, hcl, st⟩
  · cases hv
    obtain ⟨-, -, k3⟩ := vx_keep (A1 := Aw g) h0 e1 hs.2.2 (fun q _ h => h) (fun q h => h) hL hF
    obtain ⟨t2, a1, b1⟩ := kk _ hr1 T'.heap (locs ++ L) ⟨by rw [e1]; exact h1, by rw [e1]; exact h2, k3⟩ T' rfl X'
    exact ⟨t2, st t2 a1, b1⟩
  · obtain ⟨-, -, k3⟩ := vx_keep (A1 := Aw g) h0 e1 hs.2.2 (fun q _ h => h) (fun q h => h) hL hF
    obtain ⟨t2, a1, b1⟩ := kx k hr1 ce q T'.heap (locs ++ L) (by rw [e1]; exact h1) (by rw [e1]; exact h2) k3 (by rw [e1]; exact hce) hcv hcl T' rfl X'
    exact ⟨t2, st.trans a1, b1⟩
theorem sx_xcallV {C0 : String} {T : u_T} {N b0 : Nat} (C : Cx g p s m meth c cc nL own) (hs : HS g s σ sz H locs) (M : vx_Met l y [Cond.code y b n ret] (rmk fr mc ms lo) (Pre g σ sz (Value.ref b0 :: As)) (PstX g rr σ1 sz1) (XpX g rr σ1 sz1) mc ms (Aw g)) (O : MthV C0 y b n ret np) (hl : Cond.methodLink own index y ∈ GW)
    (ho : isO σ b0 ci = some ()) (hc : scl[ci]? = some (C0, T, N)) (hn : As.length = np) (hsz : ls.size = nL) (hF : Fits R fr n lo cells mc slots ms) (hst : st0 = As.reverse ++ .ref b0 :: rest) (hw : (rest.map fun v => v.category).sum ≤ 8) (hdg : decode cc pc = .ok (.invokevirtual index, 3))
    (kx : ∀ k, rr = .inl k → ∀ (ce : Cell) (q9 : Addr) (H1 : Heap) (locs1 : List Loc), Hp g σ1 H1 → sz1 ≤ H1.size → va_S (Aw g) s.heap H1 locs1 → H1[q9]? = some ce → ce.vm = .none → s.vm.findClass (exN k) = some ce.cls → vx_W p l e R s m args below meth c H1 locs1 (cells + mc) (slots + ms) Q (F0 m pc ls rest) q9)
    (kk : ∀ vr, rr = .inr vr → ∀ (H1 : Heap) (locs1 : List Loc), HS g s σ1 sz1 H1 locs1 → W p l e R s m args below meth c H1 locs1 (cells + mc) (slots + ms) Q (F0 m (pc + 3) ls (vr.toList ++ rest))) : W p l e R s m args below meth c H locs cells slots Q (F0 m pc ls st0) := by
  have hts : ∀ w ∈ GW, w.before args s = true := fun w hw => C.2.2.2.2.1.1 w hw args
  obtain ⟨o1, o2, o3, o4, o5⟩ := O
  exact sx_xafter (As := Value.ref b0 :: As) (vx_runV (As := As) (Ts := GW) (rest := rest) ⟨C.1, C.2.1, C.2.2.1, C.2.2.2.1, hts⟩ M ⟨⟨rfl, rfl, hF.1.1, hF.1.2, pay1 o4 (hts _ o4), List.mem_cons_self, hts _ o4, hts _ o3, ⟨o5.1, o5.2.1⟩, o5.len, hts _ hl⟩, hts _ o1, hts _ o2⟩ ⟨Pre.blind _ _ _ _, recvO C hs ho hc, Pre.at C hs⟩ rfl hn hsz hst (lv_room hw) hdg hF.2) hs kx kk
theorem sx_xcallS (C : Cx g p s m meth c cc nL own) (hs : HS g s σ sz H locs) (M : vx_Met l y [Cond.code y b n ret] (rmk fr mc ms lo) (Pre g σ sz As) (PstX g rr σ1 sz1) (XpX g rr σ1 sz1) mc ms (Aw g)) (O : MthS y b n ret np) (hl : Cond.methodLink own index y ∈ GW)
    (hn : As.length = np) (hsz : ls.size = nL) (hF : Fits R fr n lo cells mc slots ms) (hst : st0 = As.reverse ++ rest) (hw : (rest.map fun v => v.category).sum ≤ 8) (hdg : decode cc pc = .ok (.invokestatic index, 3))
    (kx : ∀ k, rr = .inl k → ∀ (ce : Cell) (q9 : Addr) (H1 : Heap) (locs1 : List Loc), Hp g σ1 H1 → sz1 ≤ H1.size → va_S (Aw g) s.heap H1 locs1 → H1[q9]? = some ce → ce.vm = .none → s.vm.findClass (exN k) = some ce.cls → vx_W p l e R s m args below meth c H1 locs1 (cells + mc) (slots + ms) Q (F0 m pc ls rest) q9)
    (kk : ∀ vr, rr = .inr vr → ∀ (H1 : Heap) (locs1 : List Loc), HS g s σ1 sz1 H1 locs1 → W p l e R s m args below meth c H1 locs1 (cells + mc) (slots + ms) Q (F0 m (pc + 3) ls (vr.toList ++ rest))) : W p l e R s m args below meth c H locs cells slots Q (F0 m pc ls st0) := by
  have hts : ∀ w ∈ GW, w.before args s = true := fun w hw => C.2.2.2.2.1.1 w hw args
  obtain ⟨o2, o3, o4, o5⟩ := O
  exact sx_xafter (As := As) (vx_runS (As := As) (Ts := GW) (rest := rest) ⟨C.1, C.2.1, C.2.2.1, C.2.2.2.1, hts⟩ M ⟨⟨rfl, rfl, hF.1.1, hF.1.2, pay1 o4 (hts _ o4), List.mem_cons_self, hts _ o4, hts _ o3, ⟨o5.1, o5.2.1⟩, o5.len, hts _ hl⟩, hts _ o2⟩ ⟨Pre.blind _ _ _ _, Pre.at C hs⟩ rfl hn hsz hst (lv_room hw) hdg hF.2) hs kx kk
/-- what was thrown goes on to the caller -/
theorem sx_out {k : Nat} {ce : Cell} {q9 : Addr} {σ2 : Sto} {sz2 : Nat} (C : Cx g p s m meth c cc nL own) (ht : ∀ x ∈ c.exceptionTable.toList, False) (h1 : Hp g σ2 H) (h2 : sz2 ≤ H.size) (h3 : va_S (Aw g) s.heap H locs) (hce : H[q9]? = some ce) (hv : ce.vm = .none) (hcl : s.vm.findClass (exN k) = some ce.cls) (hc : cells ≤ mc) (hsl : slots ≤ ms) :
    vx_W p l e R s m args below meth c H locs cells slots (vx_MQ below (PstX g (.inl k) σ2 sz2) (XpX g (.inl k) σ2 sz2) args s mc ms (Aw g)) (F0 m pc ls rest) q9 :=
  vx_out (fun x hx => (ht x hx).elim) C.2.2.2.2.2.1 hce hv hcl (fun t ht _ => ⟨k, rfl, rfl, by rw [ht]; exact h1, by rw [ht]; exact h2, h3.F ht⟩) h3.2.2 hc hsl
/-! throws -/
def xnames : List String := ["java/lang/RuntimeException", "java/lang/Exception"]
def ThrowOk (own : String) (ik is ic : Nat) (cls text : String) : Prop := Bundle.fit cls = true ∧ Cond.classLink own ik cls ∈ GW ∧ Cond.initialized cls ∈ GW ∧ (own, is, text) ∈ GS ∧ (∀ w ∈ vx_atS own ic cls xnames, w ∈ GW) ∧ ∀ w ∈ Cond.classLink own ik cls :: Cond.initialized cls :: vx_atS own ic cls xnames, vx_ot w = true
theorem xnames_fit : ∀ n ∈ xnames, Bundle.fit n = true := by decide +kernel
theorem sx_throw {ik is ic : Nat} {text : String} {k : Nat} (C : Cx g p s m meth c cc nL own) (hl : l.stackTraces = false) (hs : HS g s σ sz H locs) (O : ThrowOk own ik is ic (exN k) text) (ht : ∀ x ∈ c.exceptionTable.toList, False) (hsize : ls.size = nL)
    (d0 : decode cc pc = .ok (.new ik, 3)) (d3 : decode cc (pc + 3) = .ok (.dup, 1)) (d4 : decode cc (pc + 4) = .ok (.ldc is, 2)) (d6 : decode cc (pc + 6) = .ok (.invokespecial ic, 3)) (d9 : decode cc (pc + 9) = .ok (.athrow, 1))
    (hR : 5 < R.frames ∧ (rest.map fun v => v.category).sum + 82 ≤ R.locals ∧ cells + 1 ≤ R.cells ∧ slots + 6 ≤ R.slots) (hm : cells + 1 ≤ mc ∧ slots + 6 ≤ ms) :
    W p l e R s m args below meth c H locs cells slots (vx_MQ below (PstX g (.inl k) σ sz) (XpX g (.inl k) σ sz) args s mc ms (Aw g)) (F0 m pc ls rest) := by
  obtain ⟨hx, hb, hml, hown, hG, hlocks, hb0⟩ := C
  obtain ⟨hts, hstr, hK, -, ⟨hU, hN⟩, -⟩ := hG
  obtain ⟨o1, o2, o3, o4, o5, o6⟩ := O
  obtain ⟨sa, hsa⟩ := hstr _ o4
  refine vx_throwS (names := xnames) hx hb hl hown o1 xnames_fit (hts _ o2 args) (hts _ o3 args) hsa (fun w hw => hts w (o5 w hw) args) o6 hU hN hs.2.2 (by rw [hml]; exact hsize) d0 d3 d4 d6 d9 (fun x hx => (ht x hx).elim) hR.1 hR.2.1 hR.2.2.1 hR.2.2.2 hlocks (fun t _ hz hq => ?_) hs.2.2.2.2 hm.1 hm.2
  refine ⟨k, rfl, rfl, hs.1.kept hq, by rw [← hs.2.1]; exact hz, ⟨Nat.le_trans hs.2.2.1 hz, fun q h1 h2 => ?_⟩⟩
  rw [hq q (Nat.lt_of_lt_of_le h1 hs.2.2.1)]
  exact hs.2.2.2.1 q h1 h2
theorem sx_throwW {ik is ic : Nat} {text : String} {k : Nat} (C : Cx g p s m meth c cc nL own) (hl : l.stackTraces = false) (hs : HS g s σ sz H locs) (O : ThrowOk own ik is ic (exN k) text) (ht : ∀ x ∈ c.exceptionTable.toList, False) (hsize : ls.size = nL)
    (d0 : decode cc pc = .ok (.new ik, 3)) (d3 : decode cc (pc + 3) = .ok (.dup, 1)) (d4 : decode cc (pc + 4) = .ok (.ldc_w is, 3)) (d6 : decode cc (pc + 7) = .ok (.invokespecial ic, 3)) (d9 : decode cc (pc + 10) = .ok (.athrow, 1))
    (hR : 5 < R.frames ∧ (rest.map fun v => v.category).sum + 82 ≤ R.locals ∧ cells + 1 ≤ R.cells ∧ slots + 6 ≤ R.slots) (hm : cells + 1 ≤ mc ∧ slots + 6 ≤ ms) :
    W p l e R s m args below meth c H locs cells slots (vx_MQ below (PstX g (.inl k) σ sz) (XpX g (.inl k) σ sz) args s mc ms (Aw g)) (F0 m pc ls rest) := by
  obtain ⟨hx, hb, hml, hown, hG, hlocks, hb0⟩ := C
  obtain ⟨hts, hstr, hK, -, ⟨hU, hN⟩, -⟩ := hG
  obtain ⟨o1, o2, o3, o4, o5, o6⟩ := O
  obtain ⟨sa, hsa⟩ := hstr _ o4
  refine vx_throwSW (names := xnames) hx hb hl hown o1 xnames_fit (hts _ o2 args) (hts _ o3 args) hsa (fun w hw => hts w (o5 w hw) args) o6 hU hN hs.2.2 (by rw [hml]; exact hsize) d0 d3 d4 d6 d9 (fun x hx => (ht x hx).elim) hR.1 hR.2.1 hR.2.2.1 hR.2.2.2 hlocks (fun t _ hz hq => ?_) hs.2.2.2.2 hm.1 hm.2
  refine ⟨k, rfl, rfl, hs.1.kept hq, by rw [← hs.2.1]; exact hz, ⟨Nat.le_trans hs.2.2.1 hz, fun q h1 h2 => ?_⟩⟩
  rw [hq q (Nat.lt_of_lt_of_le h1 hs.2.2.1)]
  exact hs.2.2.2.1 q h1 h2
/-! ends -/
theorem sx_iret {v : Int32} {ty : FieldType} (C : Cx g p s m meth c cc nL own) (hs : HS g s σ sz H locs) (hr : meth.sig.returnType = some ty) (hn : narrow ty (.int v) = .int v) (hdg : decode cc pc = .ok (.ireturn, 1)) :
    W p l e R s m args below meth c H locs cells slots (MQ below (Pst g (some (.int v)) σ sz) args s cells slots (Aw g)) (F0 m pc ls [.int v]) :=
  W.zret C.1 C.2.1 hr hn (fun t ht _ => ⟨rfl, by rw [ht]; exact hs.1, by rw [ht]; exact hs.2.1, hs.2.2.F ht⟩) hs.2.2.2.2 hdg C.2.2.2.2.2.1
theorem sx_lret {v : Int64} (C : Cx g p s m meth c cc nL own) (hs : HS g s σ sz H locs) (hr : meth.sig.returnType = some .long) (hdg : decode cc pc = .ok (.lreturn, 1)) :
    W p l e R s m args below meth c H locs cells slots (MQ below (Pst g (some (.long v)) σ sz) args s cells slots (Aw g)) (F0 m pc ls [.long v]) :=
  W.lret C.1 C.2.1 hr (fun t ht _ => ⟨rfl, by rw [ht]; exact hs.1, by rw [ht]; exact hs.2.1, hs.2.2.F ht⟩) hs.2.2.2.2 hdg C.2.2.2.2.2.1
theorem sx_vret (C : Cx g p s m meth c cc nL own) (hs : HS g s σ sz H locs) (hr : meth.sig.returnType = none) (hdg : decode cc pc = .ok (.return_, 1)) :
    W p l e R s m args below meth c H locs cells slots (MQ below (Pst g none σ sz) args s cells slots (Aw g)) (F0 m pc ls []) :=
  W.vret C.1 C.2.1 hr (fun t ht _ => ⟨rfl, by rw [ht]; exact hs.1, by rw [ht]; exact hs.2.1, hs.2.2.F ht⟩) hs.2.2.2.2 hdg C.2.2.2.2.2.1
theorem sx_aret {v : Nat} {ty : FieldType} (C : Cx g p s m meth c cc nL own) (hs : HS g s σ sz H locs) (hr : meth.sig.returnType = some ty) (hty : (∃ n, ty = .object n) ∨ ∃ t, ty = .array t) (hdg : decode cc pc = .ok (.areturn, 1)) :
    W p l e R s m args below meth c H locs cells slots (MQ below (Pst g (some (.ref v)) σ sz) args s cells slots (Aw g)) (F0 m pc ls [.ref v]) :=
  W.aret C.1 C.2.1 hr hty (Or.inr ⟨v, rfl⟩) (fun t ht _ => ⟨rfl, by rw [ht]; exact hs.1, by rw [ht]; exact hs.2.1, hs.2.2.F ht⟩) hs.2.2.2.2 hdg C.2.2.2.2.2.1
theorem sx_iretX {v : Int32} {ty : FieldType} (C : Cx g p s m meth c cc nL own) (hs : HS g s σ sz H locs) (hr : meth.sig.returnType = some ty) (hn : narrow ty (.int v) = .int v) (hdg : decode cc pc = .ok (.ireturn, 1)) :
    W p l e R s m args below meth c H locs cells slots (vx_MQ below (PstX g (.inr (some (.int v))) σ sz) (XpX g (.inr (some (.int v))) σ sz) args s cells slots (Aw g)) (F0 m pc ls [.int v]) :=
  vx_ret (W.zret C.1 C.2.1 hr hn (fun t ht _ => ⟨_, rfl, rfl, by rw [ht]; exact hs.1, by rw [ht]; exact hs.2.1, hs.2.2.F ht⟩) hs.2.2.2.2 hdg C.2.2.2.2.2.1)
theorem sx_lretX {v : Int64} (C : Cx g p s m meth c cc nL own) (hs : HS g s σ sz H locs) (hr : meth.sig.returnType = some .long) (hdg : decode cc pc = .ok (.lreturn, 1)) :
    W p l e R s m args below meth c H locs cells slots (vx_MQ below (PstX g (.inr (some (.long v))) σ sz) (XpX g (.inr (some (.long v))) σ sz) args s cells slots (Aw g)) (F0 m pc ls [.long v]) :=
  vx_ret (W.lret C.1 C.2.1 hr (fun t ht _ => ⟨_, rfl, rfl, by rw [ht]; exact hs.1, by rw [ht]; exact hs.2.1, hs.2.2.F ht⟩) hs.2.2.2.2 hdg C.2.2.2.2.2.1)
theorem sx_vretX (C : Cx g p s m meth c cc nL own) (hs : HS g s σ sz H locs) (hr : meth.sig.returnType = none) (hdg : decode cc pc = .ok (.return_, 1)) :
    W p l e R s m args below meth c H locs cells slots (vx_MQ below (PstX g (.inr none) σ sz) (XpX g (.inr none) σ sz) args s cells slots (Aw g)) (F0 m pc ls []) :=
  vx_ret (W.vret C.1 C.2.1 hr (fun t ht _ => ⟨_, rfl, rfl, by rw [ht]; exact hs.1, by rw [ht]; exact hs.2.1, hs.2.2.F ht⟩) hs.2.2.2.2 hdg C.2.2.2.2.2.1)
theorem sx_aretX {v : Nat} {ty : FieldType} (C : Cx g p s m meth c cc nL own) (hs : HS g s σ sz H locs) (hr : meth.sig.returnType = some ty) (hty : (∃ n, ty = .object n) ∨ ∃ t, ty = .array t) (hdg : decode cc pc = .ok (.areturn, 1)) :
    W p l e R s m args below meth c H locs cells slots (vx_MQ below (PstX g (.inr (some (.ref v))) σ sz) (XpX g (.inr (some (.ref v))) σ sz) args s cells slots (Aw g)) (F0 m pc ls [.ref v]) :=
  vx_ret (W.aret C.1 C.2.1 hr hty (Or.inr ⟨v, rfl⟩) (fun t ht _ => ⟨_, rfl, rfl, by rw [ht]; exact hs.1, by rw [ht]; exact hs.2.1, hs.2.2.F ht⟩) hs.2.2.2.2 hdg C.2.2.2.2.2.1)
/-! switches -/
theorem sx_tblD {dflt lo hi : Int} {offs : Array Int} {len tgt : Nat} {x : Int32} (sp : List Int32) (C : Cx g p s m meth c cc nL own) (hdg : decode cc pc = .ok (.tableswitch dflt lo hi offs, len)) (hsz : ((hi - lo).toNat + 1 = offs.size ∧ lo ≤ hi)) (hd : ∀ j, j < offs.size → offs[j]? = some dflt ∨ ∃ z ∈ sp, z.toInt = lo + j) (hx : ∀ z ∈ sp, ¬ x = z) (ht : (pc : Int) + dflt = (tgt : Int))
    (kk : W p l e R s m args below meth c H locs cells slots Q (F0 m tgt ls rest)) : W p l e R s m args below meth c H locs cells slots Q (F0 m pc ls (.int x :: rest)) := by
  by_cases h1 : x.toInt < lo ∨ hi < x.toInt
  · exact lv_tableOut C.1 C.2.1 hdg h1 ht kk
  · have h2 : ¬ x.toInt < lo := fun h => h1 (Or.inl h)
    have h3 : ¬ hi < x.toInt := fun h => h1 (Or.inr h)
    have h4 : (x.toInt - lo).toNat < offs.size := by omega
    rcases hd _ h4 with h5 | ⟨z, hz, h5⟩
    · exact lv_tableIn C.1 C.2.1 hdg h2 h3 h5 ht kk
    · exact absurd (Int32.toInt_inj.mp (by rw [h5]; omega)) (hx z hz)
end SX
theorem ctx_of {g : PP} {l : Launch} {y : MethodName} {ws : List Cond} {rm : Room} {cc : ByteArray} {maxL : Nat} {ret : Option FieldType} {p : Program} {e : Env} {s s₁ : State} {m : MethodId} {args : Array Value} {below : List Frame} {meth : Method} {c : Code} {σ : Sto} {sz : Nat} {av : List Value} (B : BodyLoose p l y (headSpec ws rm) cc maxL ret e s m args below meth c s₁) (hml : c.maxLocals = maxL) (hv : Pre g σ sz av args s) : args = av.toArray ∧ Cx g p s m meth c cc maxL y.cls ∧ HS g s σ sz s.heap [] := by
  obtain ⟨rfl, h1, h2, h3, h4⟩ := hv
  exact ⟨rfl, ⟨B.exec, B.bytes, hml, findClass_of_methodNamed B.named, h1, B.notSynchronized, by rw [h3]; exact h4⟩, h2, h3, va_S.rf⟩
