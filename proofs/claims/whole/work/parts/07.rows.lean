/-! ===== small rows, and how the functions are taken apart ===== -/
def b2 {α β γ : Type} (o : Option (α × β)) (f : α → β → Option γ) : Option γ := o.bind fun q => f q.1 q.2
def b3 {α β γ δ : Type} (o : Option (α × β × γ)) (f : α → β → γ → Option δ) : Option δ := o.bind fun q => f q.1 q.2.1 q.2.2
def bs {α β γ : Type} (r : α ⊕ β) (f : α → γ) (g : β → γ) : γ := match r with
  | .inl x => f x
  | .inr x => g x
def oq {β : Type} (x : Option Nat) (A : β) (B : Nat → β) : β := match x with
  | none => A
  | some a => B a
/-- a loop: so often at most -/
def lp {α β : Type} (F : (α → Option β) → α → Option β) : Nat → α → Option β
  | 0, _ => none
  | n + 1, a => F (lp F n) a
theorem ob2 {α β γ : Type} {o : Option (α × β)} {f : α → β → Option γ} {r : γ} (h : b2 o f = some r) : ∃ x y, o = some (x, y) ∧ f x y = some r := by
  obtain ⟨⟨x, y⟩, h1, h2⟩ := ob h
  exact ⟨x, y, h1, h2⟩
theorem ob3 {α β γ δ : Type} {o : Option (α × β × γ)} {f : α → β → γ → Option δ} {r : δ} (h : b3 o f = some r) : ∃ x y z, o = some (x, y, z) ∧ f x y z = some r := by
  obtain ⟨⟨x, y, z⟩, h1, h2⟩ := ob h
  exact ⟨x, y, z, h1, h2⟩
theorem bsl {α β γ : Type} {x : α} {f : α → γ} {g : β → γ} {r : γ} (h : bs (Sum.inl x) f g = r) : f x = r := h
theorem bsr {α β γ : Type} {x : β} {f : α → γ} {g : β → γ} {r : γ} (h : bs (Sum.inr x) f g = r) : g x = r := h
theorem oq0 {β : Type} {A : β} {B : Nat → β} {r : β} (h : oq none A B = r) : A = r := h
theorem oq1 {β : Type} {a : Nat} {A : β} {B : Nat → β} {r : β} (h : oq (some a) A B = r) : B a = r := h
theorem ip {c : Prop} {d : Decidable c} {α : Type} {A B r : α} (hc : c) (h : @ite α c d A B = r) : A = r := by rwa [if_pos hc] at h
theorem iN {c : Prop} {d : Decidable c} {α : Type} {A B r : α} (hc : ¬ c) (h : @ite α c d A B = r) : B = r := by rwa [if_neg hc] at h
theorem oi {c : Prop} {d : Decidable c} {α : Type} {A : Option α} {r : α} (h : @ite (Option α) c d A none = some r) : c ∧ A = some r := by
  by_cases hc : c
  · exact ⟨hc, by rwa [if_pos hc] at h⟩
  · rw [if_neg hc] at h; cases h
theorem on {c : Prop} {d : Decidable c} {α : Type} {A : Option α} {r : α} (h : @ite (Option α) c d none A = some r) : ¬ c ∧ A = some r := by
  by_cases hc : c
  · rw [if_pos hc] at h; cases h
  · exact ⟨hc, by rwa [if_neg hc] at h⟩
theorem inrl {α β : Type} {a : β} {b : α} (h : (Sum.inr a : α ⊕ β) = Sum.inl b) : False := by cases h
theorem inlr {α β : Type} {a : β} {b : α} (h : (Sum.inl b : α ⊕ β) = Sum.inr a) : False := by cases h
theorem lp_s {α β : Type} (F : (α → Option β) → α → Option β) (n : Nat) (a : α) : lp F (n + 1) a = F (lp F n) a := rfl
/-- what a method costs that makes nothing but what it throws -/
def cX {α : Type} (r : Nat ⊕ α) : Nat := match r with
  | .inl _ => 1
  | .inr _ => 0
def cY {α : Type} (r : Nat ⊕ α) : Nat := match r with
  | .inl _ => 6
  | .inr _ => 0
def nO (σ : Sto) (sz ci : Nat) (V : Nat → Value) : Sto := va_up σ sz (some (.inl (ci, V)))
def nA (σ : Sto) (sz k n : Nat) (f : Cn) : Sto := va_up σ sz (some (.inr (k, n, f)))
def z1 : Cn := .inl (fun _ => 0)
def z2 : Cn := .inr (.inl (fun _ => 0))
def z3 : Cn := .inr (.inr (fun _ => none))
/-- a length that there is room for -/
def nN (x : Int32) : Option Nat := if inB x 1025 = true then some x.toNatClampNeg else none
theorem nN_v {x : Int32} {n : Nat} (h : nN x = some n) : ¬ x < 0 ∧ x.toNatClampNeg = n ∧ n ≤ 1024 := by
  unfold nN at h
  split at h
  · rename_i hi
    cases h
    simp only [inB, Bool.and_eq_true, decide_eq_true_eq] at hi
    refine ⟨by rw [Int32.lt_iff_toInt_lt]; show ¬ x.toInt < 0; omega, rfl, ?_⟩
    have : x.toNatClampNeg = x.toInt.toNat := rfl
    omega
  · cases h
theorem HS.nm {g : PP} {s : State} {σ σ1 : Sto} {sz : Nat} {H : Heap} {locs : List Loc} (h : σ1 = σ) (hs : HS g s σ sz H locs) : HS g s σ1 sz H locs := by rw [h]; exact hs
/-- ints copied from a row to a row -/
def cpI (σ : Sto) (a0 : Nat) (sp : Int32) (a : Nat) (dp n : Int32) : Option Sto := match aE σ a0 1, aE σ a 1 with
  | some (n0, .inl f), some (n1, .inl g) => if ¬ sp < 0 ∧ ¬ dp < 0 ∧ ¬ n < 0 ∧ sp.toNatClampNeg + n.toNatClampNeg ≤ n0 ∧ dp.toNatClampNeg + n.toNatClampNeg ≤ n1 then some (va_up σ a (some (.inr (1, n1, .inl (va_cpy f g sp.toNatClampNeg dp.toNatClampNeg n.toNatClampNeg))))) else none
  | _, _ => none
theorem cpI_v {σ σ1 : Sto} {a0 a : Nat} {sp dp n : Int32} (h : cpI σ a0 sp a dp n = some σ1) : ∃ n0 n1 f g, σ a0 = some (.inr (1, n0, .inl f)) ∧ σ a = some (.inr (1, n1, .inl g)) ∧ ¬ sp < 0 ∧ ¬ dp < 0 ∧ ¬ n < 0 ∧ sp.toNatClampNeg + n.toNatClampNeg ≤ n0 ∧ dp.toNatClampNeg + n.toNatClampNeg ≤ n1 ∧ va_up σ a (some (.inr (1, n1, .inl (va_cpy f g sp.toNatClampNeg dp.toNatClampNeg n.toNatClampNeg)))) = σ1 := by
  unfold cpI at h
  split at h
  · rename_i n0 f n1 g h0 h1
    split at h
    · rename_i hc
      obtain ⟨c1, c2, c3, c4, c5⟩ := hc
      exact ⟨n0, n1, f, g, aE_v h0, aE_v h1, c1, c2, c3, c4, c5, Option.some.inj h⟩
    · cases h
  · cases h
section SR
variable {g : PP} {p : Program} {l : Launch} {e : Env} {R : Room} {s : State} {m : MethodId} {args : Array Value} {below : List Frame} {meth : Method} {c : Code} {H : Heap} {locs : List Loc} {cells slots : Nat} {Q : State → Prop}
variable {cc : ByteArray} {nL pc : Nat} {own : String} {ls : Array Slot} {rest st0 : List Value} {σ σ1 : Sto} {sz sz1 a ci k : Nat}
theorem sx_nmI {x y : Int32} (h : y = x) (kk : W p l e R s m args below meth c H locs cells slots Q (F0 m pc ls (.int y :: rest))) : W p l e R s m args below meth c H locs cells slots Q (F0 m pc ls (.int x :: rest)) := h ▸ kk
theorem sx_nmL {x y : Int64} (h : y = x) (kk : W p l e R s m args below meth c H locs cells slots Q (F0 m pc ls (.long y :: rest))) : W p l e R s m args below meth c H locs cells slots Q (F0 m pc ls (.long x :: rest)) := h ▸ kk
theorem sx_aloadQ_n {j : Fin 4} {i : Nat} {x : Option Nat} (hx : p.tables.exec = Jvm.exec) (hb : c.code = cc) (hdg : decode cc pc = .ok (.aload_n j, 1)) (hi : (j : Nat) = i) (hl : ls[i]? = some (.val (va_rf x)))
    (kk : W p l e R s m args below meth c H locs cells slots Q (F0 m (pc + 1) ls (va_rf x :: rest))) : W p l e R s m args below meth c H locs cells slots Q (F0 m pc ls rest) := by
  cases x with
  | none => exact lv_aload_nN hx hb hdg hi hl kk
  | some a => exact lv_aload_n hx hb hdg hi hl kk
theorem sx_astoreQ_n {j : Fin 4} {i : Nat} {x : Option Nat} {lv lv' : List (Nat × Value)} (hx : p.tables.exec = Jvm.exec) (hb : c.code = cc) (hdg : decode cc pc = .ok (.astore_n j, 1)) (hi : (j : Nat) = i) (h : lv_has ls nL lv) (hn : i < nL) (hl : (i, va_rf x) :: lv.filter (fun q => !(q.1 == i) && !(q.1 + 1 == i && q.2.category == 2)) = lv')
    (kk : ∀ ls' : Array Slot, lv_has ls' nL lv' → W p l e R s m args below meth c H locs cells slots Q (F0 m (pc + 1) ls' rest)) : W p l e R s m args below meth c H locs cells slots Q (F0 m pc ls (va_rf x :: rest)) := by
  cases x with
  | none => exact lv_astore_nN hx hb hdg hi h hn hl kk
  | some a => exact lv_astore_n hx hb hdg hi h hn hl kk
theorem sx_astoreQ {i : Nat} {x : Option Nat} {lv lv' : List (Nat × Value)} (hx : p.tables.exec = Jvm.exec) (hb : c.code = cc) (hdg : decode cc pc = .ok (.astore i, 2)) (h : lv_has ls nL lv) (hn : i < nL) (hl : (i, va_rf x) :: lv.filter (fun q => !(q.1 == i) && !(q.1 + 1 == i && q.2.category == 2)) = lv')
    (kk : ∀ ls' : Array Slot, lv_has ls' nL lv' → W p l e R s m args below meth c H locs cells slots Q (F0 m (pc + 2) ls' rest)) : W p l e R s m args below meth c H locs cells slots Q (F0 m pc ls (va_rf x :: rest)) := by
  cases x with
  | none => exact lv_astoreN hx hb hdg h hn hl kk
  | some a => exact lv_astore hx hb hdg h hn hl kk
theorem sx_aloadQ {i : Nat} {x : Option Nat} (hx : p.tables.exec = Jvm.exec) (hb : c.code = cc) (hdg : decode cc pc = .ok (.aload i, 2)) (hl : ls[i]? = some (.val (va_rf x)))
    (kk : W p l e R s m args below meth c H locs cells slots Q (F0 m (pc + 2) ls (va_rf x :: rest))) : W p l e R s m args below meth c H locs cells slots Q (F0 m pc ls rest) := by
  cases x with
  | none => exact lv_aloadN hx hb hdg hl kk
  | some a => exact lv_aload hx hb hdg hl kk
theorem sx_objInit {idx : Nat} {lv : List (Nat × Value)} (C : Cx g p s m meth c cc nL own) (hl : lv_has ls nL lv) (h1 : Cond.methodLink own idx Lib.objectInit ∈ GW) (h2 : Cond.instanceMethod Lib.objectInit ∈ GW) (h3 : Cond.code Lib.objectInit ⟨#[0xb1]⟩ 1 none ∈ GW) (hdg : decode cc pc = .ok (.invokespecial idx, 3)) (hf : 1 ≤ R.frames) (hlo : (rest.map fun v => v.category).sum + 12 ≤ R.locals)
    (kk : W p l e R s m args below meth c H locs cells slots Q (F0 m (pc + 3) ls rest)) : W p l e R s m args below meth c H locs cells slots Q (F0 m pc ls (.ref a :: rest)) := by
  have hts := C.2.2.2.2.1.1
  exact W.objInit C.1 C.2.1 C.2.2.2.1 (hts _ h1 args) (hts _ h2 args) (hts _ h3 args) rfl (by rw [C.2.2.1]; exact hl.1) rfl hdg hf (by show 2 * 0 + _ + 12 ≤ _; omega) kk
/-- a row of ints copied into another one: as the kit's va_copyi goes, with the rest of the heap kept -/
theorem sx_copy {index a0 : Nat} {sp dp n : Int32} {lv : List (Nat × Value)} (C : Cx g p s m meth c cc nL own) (hs : HS g s σ sz H locs) (hlv : ls.size = nL) (hl : Cond.methodLink own index arraycopyName ∈ GW) (hnt : Cond.native arraycopyName ∈ GW ∧ Cond.static arraycopyName ∈ GW ∧ Cond.initialized "java/lang/System" ∈ GW) (he : cpI σ a0 sp a dp n = some σ1)
    (hframes : 1 ≤ R.frames) (hlocals : (rest.map fun v => v.category).sum + (nativeFrameWords "java/lang/System" "arraycopy" 5 + 11) ≤ R.locals) (hdg : decode cc pc = .ok (.invokestatic index, 3))
    (kk : ∀ (H1 : Heap) (locs1 : List Loc), HS g s σ1 sz H1 locs1 → W p l e R s m args below meth c H1 locs1 cells slots Q (F0 m (pc + 3) ls rest)) : W p l e R s m args below meth c H locs cells slots Q (F0 m pc ls (.int n :: .int dp :: .ref a :: .int sp :: .ref a0 :: rest)) := by
  obtain ⟨n0, n1, f, g9, hσ0, hσ1, h1, h2, h3, h4, h5, rfl⟩ := cpI_v he
  have hts : ∀ w ∈ GW, w.before args s = true := fun w hw => C.2.2.2.2.1.1 w hw args
  have hK := C.2.2.2.2.1.2.2.1
  have nn : ∀ z : Int32, ¬ z < 0 → z.toInt = (z.toNatClampNeg : Int) := by
    intro z hz
    have hz0 : (0 : Int) ≤ z.toInt := by
      have := Int32.not_lt.mp hz
      simpa using Int32.le_iff_toInt_le.mp this
    show z.toInt = ((z.toInt.toNat : Nat) : Int)
    omega
  intro T hT X
  have hc0 : H[a0]? = some (arrV (g.2.1 1) n0 (fun j => .int (f j))) := hs.arr hσ0
  have hc1 : H[a]? = some (arrV (g.2.1 1) n1 (fun j => .int (g9 j))) := hs.arr hσ1
  obtain ⟨-, k0, hk0, cm0, hkk0⟩ := (hK.2 1 _ (gTys_at g (by decide))).1 n0 (fun j => .int (f j))
  obtain ⟨-, k1, hk1, cm1, hkk1⟩ := (hK.2 1 _ (gTys_at g (by decide))).1 n1 (fun j => .int (g9 j))
  obtain ⟨vm', X', step⟩ := X.arraycopy C.1 C.2.2.2.1 (hts _ hl) (hts _ hnt.1) (hts _ hnt.2.1) (hts _ hnt.2.2) (src := a0) (dst := a) (cs := arrV (g.2.1 1) n0 (fun j => .int (f j))) (cd := arrV (g.2.1 1) n1 (fun j => .int (g9 j))) (srcPos := sp) (destPos := dp) (n := n) (by rw [hT]; exact hc0) (by rw [hT]; exact hc1)
    (fun _ h => by cases h) (fun _ h => by cases h) (fun h => by cases h) (fun h => by cases h) hk0 hk1 hkk0 hkk1 (by rfl) h1 h2 h3
    (by rw [nn sp h1, nn n h3, arrV_size]; omega)
    (by rw [nn dp h2, nn n h3, arrV_size]; omega)
    (fun vm₁ _ i hi => by
      have e : (arrV (g.2.1 1) n0 (fun j => .int (f j))).slots.getD (sp.toNatClampNeg + i) .null = .int (f (sp.toNatClampNeg + i)) := by
        rw [Array.getD_eq_getD_getElem?, arrV_read _ _ (by omega)]
        rfl
      refine ⟨?_, ?_⟩
      · rw [e]; rfl
      · rw [e]
        exact trivial)
    (g := F0 m pc ls (.int n :: .int dp :: .ref a :: .int sp :: .ref a0 :: rest)) rfl (by rw [C.2.2.1]; exact hlv) (rest := rest) rfl (by rw [C.2.1]; exact hdg) hframes (by show 2 * 0 + _ + _ ≤ _; omega)
  have e1 : copied (arrV (g.2.1 1) n0 (fun j => .int (f j))) (arrV (g.2.1 1) n1 (fun j => .int (g9 j))) sp dp n = arrV (g.2.1 1) n1 (fun j => .int (va_cpy f g9 sp.toNatClampNeg dp.toNatClampNeg n.toNatClampNeg j)) := va_copied (fun z => .int z) _ _ f g9 h4
  rw [e1] at X' step
  have hla : a < H.size := (Array.getElem?_eq_some_iff.mp hc1).1
  have hheap : ((T.setVm vm').setCell a (arrV (g.2.1 1) n1 (fun j => .int (va_cpy f g9 sp.toNatClampNeg dp.toNatClampNeg n.toNatClampNeg j)))).heap = H.setIfInBounds a (arrV (g.2.1 1) n1 (fun j => .int (va_cpy f g9 sp.toNatClampNeg dp.toNatClampNeg n.toNatClampNeg j))) := by rw [← hT]; rfl
  have oq : ∀ q : Nat, q ≠ a → (H.setIfInBounds a (arrV (g.2.1 1) n1 (fun j => .int (va_cpy f g9 sp.toNatClampNeg dp.toNatClampNeg n.toNatClampNeg j))))[q]? = H[q]? := fun q hq => by simp [Array.getElem?_setIfInBounds, Ne.symm hq]
  have ha0 := (hs.1 _ _ hσ1).1
  obtain ⟨t, a1, b1⟩ := kk _ _ ⟨hs.1.put ha0 (show (H.setIfInBounds a _)[a]? = some _ by simp [Array.getElem?_setIfInBounds, hla]; rfl) oq, by simp; exact hs.2.1, ⟨by simp; exact hs.2.2.1, fun q g1 g2 => by
      rw [oq q (fun e => g2 (by rw [e]; exact ha0))]
      exact hs.2.2.2.1 q g1 g2, fun q hq => by
      rcases List.mem_append.mp hq with h | h
      · exact hs.2.2.2.2 q h
      · obtain ⟨z, -, hz⟩ := List.mem_map.mp h
        rw [← hz]
        exact ha0⟩⟩ _ hheap X'
  exact ⟨t, step t a1, b1⟩
/-- a key of a switch -/
theorem sx_tblK {dflt lo hi : Int} {offs : Array Int} {len tgt : Nat} {x : Int32} (z : Int32) {off : Int} (C : Cx g p s m meth c cc nL own) (hdg : decode cc pc = .ok (.tableswitch dflt lo hi offs, len)) (hx : x = z) (h1 : ¬ z.toInt < lo ∧ ¬ hi < z.toInt ∧ offs[(z.toInt - lo).toNat]? = some off) (ht : (pc : Int) + off = (tgt : Int))
    (kk : W p l e R s m args below meth c H locs cells slots Q (F0 m tgt ls rest)) : W p l e R s m args below meth c H locs cells slots Q (F0 m pc ls (.int x :: rest)) := by
  subst hx
  exact lv_tableIn C.1 C.2.1 hdg h1.1 h1.2.1 h1.2.2 ht kk
theorem sx_lkp {dflt : Int} {ps : Array (Int × Int)} {len : Nat} {x : Int32} {off : Int} {tgt : Nat} (C : Cx g p s m meth c cc nL own) (hdg : decode cc pc = .ok (.lookupswitch dflt ps, len)) (hp : (ps.toList.zip (ps.toList.drop 1)).all (fun (a, next) => a.1 < next.1) = true) (ho : Op.lookupswitch.offset ps.toList dflt x.toInt = off) (ht : (pc : Int) + off = (tgt : Int))
    (kk : W p l e R s m args below meth c H locs cells slots Q (F0 m tgt ls rest)) : W p l e R s m args below meth c H locs cells slots Q (F0 m pc ls (.int x :: rest)) := lv_lookup C.1 C.2.1 hdg hp ho ht kk
end SR
