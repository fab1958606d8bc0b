/-! ===== the class's cells as a record laid over a store ===== -/
/-- ints by group, number, place; longs; refs of the rows that hold what is made by calls; lengths -/
abbrev KS : Type := (Nat → Nat → Nat → Int32) × (Nat → Nat → Nat → Int64) × (Nat → Nat → Option Nat) × (Nat → Nat → Nat)
abbrev AM : Type := Nat → Nat → Nat
abbrev WM : Type := Nat → Option (Nat × Nat)
def fv (A : AM) (i : Nat → Int32) (l : Nat → Int64) (c q j : Nat) : Value := match c with
  | 0 => .int (i q)
  | 1 => .long (l q)
  | 2 => .null
  | c + 3 => .ref (A c j)
def fk (g q : Nat) : Nat := match g with
  | 0 => [4, 5, 7, 8, 9, 10, 11, 0, 12, 16, 20].getD q 2
  | 2 => [6].getD q 0
  | 9 => [13, 0, 14, 0, 15].getD q 1
  | 13 => [17, 18, 19, 0].getD q 1
  | 17 => [21, 22, 23, 24, 0, 25, 26, 27].getD q 0
  | 26 => [30, 31].getD q 0
  | 29 => [0, 0, 0, 0, 33, 34].getD q 2
  | _ => 0
/-- an object's class, or a row's tag and length -/
def gk (g n : Nat) : Nat ⊕ (Nat × Nat) := match g with
  | 0 => .inl 10
  | 1 => .inr (4, 12)
  | 2 => .inl 8
  | 3 => .inr (0, 24)
  | 4 => .inr (5, 4)
  | 5 => .inr (4, 16)
  | 6 => .inr (6, 6)
  | 7 => .inr (6, 6)
  | 8 => .inr (7, 20)
  | 9 => .inl 6
  | 10 => .inr (1, 12)
  | 11 => .inr (2, 12)
  | 12 => .inr (2, 12)
  | 13 => .inl 4
  | 14 => .inr (2, 120)
  | 15 => .inr (2, 120)
  | 16 => .inr (2, 120)
  | 17 => .inl 3
  | 18 => .inr (1, 200)
  | 19 => .inr (1, 200)
  | 20 => .inr (2, 200)
  | 21 => .inr (1, 200)
  | 22 => .inr (1, 220)
  | 23 => .inr (1, 220)
  | 24 => .inr (1, 220)
  | 25 => .inl 0
  | 26 => .inl 7
  | 27 => .inr (1, n)
  | 28 => .inr (1, n)
  | 29 => .inl 2
  | 30 => .inr (2, 12)
  | _ => .inr (1, 12)
def rk (A : AM) (r : Nat → Option Nat) (g i : Nat) : Option Nat := match g with
  | 4 => if i < 4 then some (A 25 i) else none
  | 6 => if i < 6 then some (A 26 (2 * i)) else none
  | 7 => if i < 6 then some (A 26 (2 * i + 1)) else none
  | _ => r i
def kE (A : AM) (i : Nat → Int32) (l : Nat → Int64) (r : Nat → Option Nat) (n g j : Nat) : Ent := match gk g n with
  | .inl c => .inl (c, fun q => fv A i l (fk g q) q j)
  | .inr q => .inr (q.1, q.2, if q.1 = 2 then .inr (.inl l) else if q.1 < 4 then .inl i else .inr (.inr (rk A r g)))
def kEnt (A : AM) (K : KS) (g j : Nat) : Ent := kE A (K.1 g j) (K.2.1 g j) (K.2.2.1 g) (K.2.2.2 g j) g j
def ovk (A : AM) (W : WM) (K : KS) (σ : Sto) : Sto := fun a => match W a with
  | some q => some (kEnt A K q.1 q.2)
  | none => σ a
/-- what is there: n invoices -/
def Lv (n g j : Nat) : Prop := match g with
  | 25 => j < 4
  | 26 => j < 12
  | 27 => j < 12
  | 28 => j < 12
  | 29 => j < n
  | 30 => j < n
  | 31 => j < n
  | g => g < 25 ∧ j = 0
def Gk (n : Nat) (A : AM) (W : WM) : Prop := (∀ g j, Lv n g j → W (A g j) = some (g, j)) ∧ ∀ a g j, W a = some (g, j) → A g j = a ∧ Lv n g j
def Hk (A : AM) (W : WM) (K : KS) (σ : Sto) : Prop := ∀ a q, W a = some q → σ a = some (kEnt A K q.1 q.2)
theorem Hk.eq {A : AM} {W : WM} {K : KS} {σ : Sto} (h : Hk A W K σ) : ovk A W K σ = σ := by
  funext a
  unfold ovk
  cases hw : W a with
  | none => rfl
  | some q => exact (h a q hw).symm
theorem Hk.ov {A : AM} {W : WM} {K : KS} {σ : Sto} : Hk A W K (ovk A W K σ) := by
  intro a q hw
  unfold ovk
  rw [hw]
theorem ovk_none {A : AM} {W : WM} {K : KS} {σ : Sto} {a : Nat} (h : W a = none) : ovk A W K σ a = σ a := by
  unfold ovk
  rw [h]
theorem ovk_at {n : Nat} {A : AM} {W : WM} {K : KS} {σ : Sto} {g j : Nat} (hG : Gk n A W) (hl : Lv n g j) : ovk A W K σ (A g j) = some (kEnt A K g j) := by
  unfold ovk
  rw [hG.1 g j hl]
theorem ovk_up {n : Nat} {A : AM} {W : WM} {K K' : KS} {σ : Sto} {g j : Nat} (hG : Gk n A W) (hl : Lv n g j) (h : ∀ g' j', ¬ (g' = g ∧ j' = j) → kEnt A K' g' j' = kEnt A K g' j') : va_up (ovk A W K σ) (A g j) (some (kEnt A K' g j)) = ovk A W K' σ := by
  funext a
  by_cases ha : a = A g j
  · subst ha
    rw [va_up_self, ovk_at hG hl]
  · rw [va_up_ne _ _ ha]
    unfold ovk
    cases hw : W a with
    | none => rfl
    | some q =>
      dsimp only
      rw [h q.1 q.2 (fun e => ha (by rw [← (hG.2 a q.1 q.2 hw).1, e.1, e.2]))]
def kI (K : KS) (g j k : Nat) (v : Int32) : KS := (fun g' j' k' => if g' = g ∧ j' = j ∧ k' = k then v else K.1 g' j' k', K.2)
def kL (K : KS) (g j k : Nat) (v : Int64) : KS := (K.1, fun g' j' k' => if g' = g ∧ j' = j ∧ k' = k then v else K.2.1 g' j' k', K.2.2)
def kR (K : KS) (g k : Nat) (v : Option Nat) : KS := (K.1, K.2.1, fun g' k' => if g' = g ∧ k' = k then v else K.2.2.1 g' k', K.2.2.2)
theorem kEnt_kI {A : AM} {K : KS} {g j k : Nat} {v : Int32} {g' j' : Nat} (h : ¬ (g' = g ∧ j' = j)) : kEnt A (kI K g j k v) g' j' = kEnt A K g' j' := by
  unfold kEnt kI
  have e : (fun k' => if g' = g ∧ j' = j ∧ k' = k then v else K.1 g' j' k') = K.1 g' j' := by
    funext k'
    rw [if_neg (fun q => h ⟨q.1, q.2.1⟩)]
  dsimp only
  rw [e]
theorem kEnt_kL {A : AM} {K : KS} {g j k : Nat} {v : Int64} {g' j' : Nat} (h : ¬ (g' = g ∧ j' = j)) : kEnt A (kL K g j k v) g' j' = kEnt A K g' j' := by
  unfold kEnt kL
  have e : (fun k' => if g' = g ∧ j' = j ∧ k' = k then v else K.2.1 g' j' k') = K.2.1 g' j' := by
    funext k'
    rw [if_neg (fun q => h ⟨q.1, q.2.1⟩)]
  dsimp only
  rw [e]
theorem kEnt_kR {A : AM} {K : KS} {g k : Nat} {v : Option Nat} {g' j' : Nat} (h : g' ≠ g) : kEnt A (kR K g k v) g' j' = kEnt A K g' j' := by
  unfold kEnt kR
  have e : (fun k' => if g' = g ∧ k' = k then v else K.2.2.1 g' k') = K.2.2.1 g' := by
    funext k'
    rw [if_neg (fun q => h q.1)]
  dsimp only
  rw [e]
theorem kI_v {K : KS} {g j k : Nat} {v : Int32} {g' j' k' : Nat} : (kI K g j k v).1 g' j' k' = if g' = g ∧ j' = j ∧ k' = k then v else K.1 g' j' k' := rfl
theorem kI_o {K : KS} {g j k : Nat} {v : Int32} : (kI K g j k v).2 = K.2 := rfl
theorem kL_v {K : KS} {g j k : Nat} {v : Int64} {g' j' k' : Nat} : (kL K g j k v).2.1 g' j' k' = if g' = g ∧ j' = j ∧ k' = k then v else K.2.1 g' j' k' := rfl
theorem kL_o {K : KS} {g j k : Nat} {v : Int64} : (kL K g j k v).1 = K.1 := rfl
theorem kL_r {K : KS} {g j k : Nat} {v : Int64} : (kL K g j k v).2.2 = K.2.2 := rfl
theorem kR_v {K : KS} {g k : Nat} {v : Option Nat} {g' k' : Nat} : (kR K g k v).2.2.1 g' k' = if g' = g ∧ k' = k then v else K.2.2.1 g' k' := rfl
theorem kR_o {K : KS} {g k : Nat} {v : Option Nat} : (kR K g k v).1 = K.1 := rfl
theorem kR_l {K : KS} {g k : Nat} {v : Option Nat} : (kR K g k v).2.1 = K.2.1 := rfl
theorem kR_n {K : KS} {g k : Nat} {v : Option Nat} : (kR K g k v).2.2.2 = K.2.2.2 := rfl
theorem uI_v {M : MS} {k k' : Nat} {v : Int32} : (uI M k v).1 k' = if k' = k then v else M.1 k' := by
  by_cases h : k' = k
  · subst h; rw [if_pos rfl]; exact va_up_self _ _ _
  · rw [if_neg h]; exact va_up_ne _ _ h
theorem uI_o {M : MS} {k : Nat} {v : Int32} : (uI M k v).2 = M.2 := rfl
theorem uA_v {M : MS} {k i k' i' : Nat} {v : Int32} : (uA M k i v).2.1 k' i' = if k' = k ∧ i' = i then v else M.2.1 k' i' := by
  by_cases h : k' = k
  · subst h
    by_cases h2 : i' = i
    · subst h2; rw [if_pos ⟨rfl, rfl⟩]; exact uA_same
    · rw [if_neg (fun q => h2 q.2)]; exact uA_ne h2
  · rw [if_neg (fun q => h q.1)]; exact uA_nk h
theorem uA_o {M : MS} {k i : Nat} {v : Int32} : (uA M k i v).1 = M.1 := rfl
theorem uA_l {M : MS} {k i : Nat} {v : Int32} : (uA M k i v).2.2 = M.2.2 := rfl
theorem uL_v {M : MS} {k i k' i' : Nat} {v : Int64} : (uL M k i v).2.2 k' i' = if k' = k ∧ i' = i then v else M.2.2 k' i' := by
  show va_up M.2.2 k (va_up (M.2.2 k) i v) k' i' = _
  by_cases h : k' = k
  · subst h
    rw [va_up_self]
    by_cases h2 : i' = i
    · subst h2; rw [if_pos ⟨rfl, rfl⟩]; exact va_up_self _ _ _
    · rw [if_neg (fun q => h2 q.2)]; exact va_up_ne _ _ h2
  · rw [if_neg (fun q => h q.1)]; rw [va_up_ne _ _ h]
theorem uL_o {M : MS} {k i : Nat} {v : Int64} : (uL M k i v).1 = M.1 := rfl
theorem uL_a {M : MS} {k i : Nat} {v : Int64} : (uL M k i v).2.1 = M.2.1 := rfl
theorem fv_upI {A : AM} {i : Nat → Int32} {l : Nat → Int64} {F : Nat → Nat} {k j : Nat} {v : Int32} (h : F k = 0) : va_up (fun q => fv A i l (F q) q j) k (.int v) = fun q => fv A (fun k' => if k' = k then v else i k') l (F q) q j := by
  funext q
  by_cases hq : q = k
  · subst hq
    rw [va_up_self, h]
    show _ = Value.int (if q = q then v else i q)
    rw [if_pos rfl]
  · rw [va_up_ne _ _ hq]
    unfold fv
    split
    · dsimp only; rw [if_neg hq]
    · rfl
    · rfl
    · rfl
theorem fv_upL {A : AM} {i : Nat → Int32} {l : Nat → Int64} {F : Nat → Nat} {k j : Nat} {v : Int64} (h : F k = 1) : va_up (fun q => fv A i l (F q) q j) k (.long v) = fun q => fv A i (fun k' => if k' = k then v else l k') (F q) q j := by
  funext q
  by_cases hq : q = k
  · subst hq
    rw [va_up_self, h]
    show _ = Value.long (if q = q then v else l q)
    rw [if_pos rfl]
  · rw [va_up_ne _ _ hq]
    unfold fv
    split
    · rfl
    · dsimp only; rw [if_neg hq]
    · rfl
    · rfl
theorem ife {α : Type} {g j : Nat} {K : Nat → Nat → Nat → α} {k : Nat} {v : α} : (fun k' => if g = g ∧ j = j ∧ k' = k then v else K g j k') = fun k' => if k' = k then v else K g j k' := by
  funext k'
  by_cases h : k' = k
  · rw [if_pos ⟨rfl, rfl, h⟩, if_pos h]
  · rw [if_neg (fun q => h q.2.2), if_neg h]
section OVK
variable {n : Nat} {A : AM} {W : WM} {K : KS} {σ : Sto} {g j k ci : Nat}
theorem kEnt_o (hc : ∀ m, gk g m = .inl ci) : kEnt A K g j = .inl (ci, fun q => fv A (K.1 g j) (K.2.1 g j) (fk g q) q j) := by
  unfold kEnt kE
  rw [hc]
theorem ovk_isO (hG : Gk n A W) (hl : Lv n g j) (hc : ∀ m, gk g m = .inl ci) : isO (ovk A W K σ) (A g j) ci = some () := by
  unfold isO
  rw [ovk_at hG hl, kEnt_o hc]
  simp
theorem ovk_gI (hG : Gk n A W) (hl : Lv n g j) (hc : ∀ m, gk g m = .inl ci) (hf : fk g k = 0) : gI (ovk A W K σ) (A g j) ci k = some (K.1 g j k) := by
  unfold gI oF
  rw [ovk_at hG hl, kEnt_o hc]
  simp [hf, fv]
theorem ovk_gL (hG : Gk n A W) (hl : Lv n g j) (hc : ∀ m, gk g m = .inl ci) (hf : fk g k = 1) : gL (ovk A W K σ) (A g j) ci k = some (K.2.1 g j k) := by
  unfold gL oF
  rw [ovk_at hG hl, kEnt_o hc]
  simp [hf, fv]
theorem ovk_gR {c : Nat} (hG : Gk n A W) (hl : Lv n g j) (hc : ∀ m, gk g m = .inl ci) (hf : fk g k = c + 3) : gR (ovk A W K σ) (A g j) ci k = some (A c j) := by
  unfold gR oF
  rw [ovk_at hG hl, kEnt_o hc]
  simp [hf, fv]
theorem ovk_pI {v : Int32} (hG : Gk n A W) (hl : Lv n g j) (hc : ∀ m, gk g m = .inl ci) (hf : fk g k = 0) : pF (ovk A W K σ) (A g j) ci k (.int v) = some (ovk A W (kI K g j k v) σ) := by
  unfold pF
  rw [ovk_at hG hl, kEnt_o hc]
  dsimp only
  rw [if_pos rfl, fv_upI hf]
  congr 1
  refine Eq.trans ?_ (ovk_up (K := K) (K' := kI K g j k v) (σ := σ) hG hl (fun g' j' h => kEnt_kI h))
  rw [kEnt_o hc]
  unfold kI
  dsimp only
  rw [ife]
theorem ovk_pL {v : Int64} (hG : Gk n A W) (hl : Lv n g j) (hc : ∀ m, gk g m = .inl ci) (hf : fk g k = 1) : pF (ovk A W K σ) (A g j) ci k (.long v) = some (ovk A W (kL K g j k v) σ) := by
  unfold pF
  rw [ovk_at hG hl, kEnt_o hc]
  dsimp only
  rw [if_pos rfl, fv_upL hf]
  congr 1
  refine Eq.trans ?_ (ovk_up (K := K) (K' := kL K g j k v) (σ := σ) hG hl (fun g' j' h => kEnt_kL h))
  rw [kEnt_o hc]
  unfold kL
  dsimp only
  rw [ife]
theorem ovk_aE {t m : Nat} (hG : Gk n A W) (hl : Lv n g j) (hc : gk g (K.2.2.2 g j) = .inr (t, m)) : aE (ovk A W K σ) (A g j) t = some (m, if t = 2 then .inr (.inl (K.2.1 g j)) else if t < 4 then .inl (K.1 g j) else .inr (.inr (rk A (K.2.2.1 g) g))) := by
  unfold aE
  rw [ovk_at hG hl]
  unfold kEnt kE
  rw [hc]
  simp
theorem ovk_aN {t m : Nat} (hG : Gk n A W) (hl : Lv n g j) (hc : gk g (K.2.2.2 g j) = .inr (t, m)) : aN (ovk A W K σ) (A g j) t = some (Int32.ofNat m) := by
  unfold aN
  rw [ovk_aE hG hl hc]
theorem ovk_aI {t m : Nat} {i : Int32} (hG : Gk n A W) (hl : Lv n g j) (hc : gk g (K.2.2.2 g j) = .inr (t, m)) (ht : t ≠ 2) (ht4 : t < 4) : aI (ovk A W K σ) (A g j) t i = if inB i m = true then some (K.1 g j i.toNatClampNeg) else none := by
  unfold aI
  rw [ovk_aE hG hl hc, if_neg ht, if_pos ht4]
theorem ovk_aL {m : Nat} {i : Int32} (hG : Gk n A W) (hl : Lv n g j) (hc : gk g (K.2.2.2 g j) = .inr (2, m)) : aL (ovk A W K σ) (A g j) 2 i = if inB i m = true then some (K.2.1 g j i.toNatClampNeg) else none := by
  unfold aL
  rw [ovk_aE hG hl hc, if_pos rfl]
theorem ovk_aQ {t m : Nat} {i : Int32} (hG : Gk n A W) (hl : Lv n g j) (hc : gk g (K.2.2.2 g j) = .inr (t, m)) (ht4 : ¬ t < 4) : aQ (ovk A W K σ) (A g j) t i = if inB i m = true then some (rk A (K.2.2.1 g) g i.toNatClampNeg) else none := by
  unfold aQ
  rw [ovk_aE hG hl hc, if_neg (by omega), if_neg ht4]
theorem ovk_sI {t m : Nat} {i v : Int32} (hG : Gk n A W) (hl : Lv n g j) (hc : gk g (K.2.2.2 g j) = .inr (t, m)) (ht : t ≠ 2) (ht4 : t < 4) : sI (ovk A W K σ) (A g j) t i v = if inB i m = true then some (ovk A W (kI K g j i.toNatClampNeg v) σ) else none := by
  unfold sI
  rw [ovk_aE hG hl hc, if_neg ht, if_pos ht4]
  dsimp only
  by_cases hi : inB i m = true
  · rw [if_pos hi, if_pos hi]
    congr 1
    refine Eq.trans ?_ (ovk_up (K := K) (K' := kI K g j i.toNatClampNeg v) (σ := σ) hG hl (fun g' j' h => kEnt_kI h))
    congr 2
    unfold kEnt kE
    rw [show (kI K g j i.toNatClampNeg v).2.2.2 g j = K.2.2.2 g j from rfl, hc]
    dsimp only
    rw [if_neg ht, if_pos ht4]
    congr 4
    funext q
    rw [kI_v]
    by_cases hq : q = i.toNatClampNeg
    · rw [hq, va_up_self, if_pos ⟨rfl, rfl, rfl⟩]
    · rw [va_up_ne _ _ hq, if_neg (fun w => hq w.2.2)]
  · rw [if_neg hi, if_neg hi]
theorem ovk_sL {m : Nat} {i : Int32} {v : Int64} (hG : Gk n A W) (hl : Lv n g j) (hc : gk g (K.2.2.2 g j) = .inr (2, m)) : sL (ovk A W K σ) (A g j) 2 i v = if inB i m = true then some (ovk A W (kL K g j i.toNatClampNeg v) σ) else none := by
  unfold sL
  rw [ovk_aE hG hl hc, if_pos rfl]
  dsimp only
  by_cases hi : inB i m = true
  · rw [if_pos hi, if_pos hi]
    congr 1
    refine Eq.trans ?_ (ovk_up (K := K) (K' := kL K g j i.toNatClampNeg v) (σ := σ) hG hl (fun g' j' h => kEnt_kL h))
    congr 2
    unfold kEnt kE
    rw [show (kL K g j i.toNatClampNeg v).2.2.2 g j = K.2.2.2 g j from rfl, hc]
    dsimp only
    rw [if_pos rfl]
    congr 5
    funext q
    rw [kL_v]
    by_cases hq : q = i.toNatClampNeg
    · rw [hq, va_up_self, if_pos ⟨rfl, rfl, rfl⟩]
    · rw [va_up_ne _ _ hq, if_neg (fun w => hq w.2.2)]
  · rw [if_neg hi, if_neg hi]
theorem ovk_sQ {t m v : Nat} {i : Int32} (hG : Gk n A W) (hl : Lv n g 0) (hg : ∀ j, Lv n g j → j = 0) (hr : ∀ (r : Nat → Option Nat) q, rk A r g q = r q) (hc : gk g (K.2.2.2 g 0) = .inr (t, m)) (ht4 : ¬ t < 4) (hv : isO (ovk A W K σ) v (tgC t) = some ()) : sQ (ovk A W K σ) (A g 0) t i v = if inB i m = true then some (ovk A W (kR K g i.toNatClampNeg (some v)) σ) else none := by
  unfold sQ
  rw [hv, ovk_aE hG hl hc, if_neg (by omega), if_neg ht4]
  dsimp only
  by_cases hi : inB i m = true
  · rw [if_pos hi, if_pos hi]
    congr 1
    funext a
    by_cases ha : a = A g 0
    · subst ha
      rw [va_up_self, ovk_at hG hl]
      congr 1
      unfold kEnt kE
      rw [show (kR K g i.toNatClampNeg (some v)).2.2.2 g 0 = K.2.2.2 g 0 from rfl, hc]
      dsimp only
      rw [if_neg (by omega), if_neg ht4]
      congr 5
      funext q
      rw [hr, kR_v]
      by_cases hq : q = i.toNatClampNeg
      · rw [hq, va_up_self, if_pos ⟨rfl, rfl⟩]
      · rw [va_up_ne _ _ hq, if_neg (fun w => hq w.2), hr]
    · rw [va_up_ne _ _ ha]
      unfold ovk
      cases hw : W a with
      | none => rfl
      | some q =>
        dsimp only
        rw [kEnt_kR]
        intro e
        obtain ⟨q1, q2⟩ := q
        dsimp only at e
        subst e
        refine ha ?_
        have h2 := hG.2 a q1 q2 hw
        rw [← h2.1, hg q2 h2.2]
  · rw [if_neg hi, if_neg hi]
end OVK
section XR
variable {n : Nat} {A : AM} {W : WM} {K : KS} {σ : Sto} {j : Nat} {i v : Int32} {w : Int64}
theorem xO_0 (hG : Gk n A W) : isO (ovk A W K σ) (A 0 0) 10 = some () := ovk_isO hG ⟨by decide, rfl⟩ (fun _ => rfl)
theorem xR_0_0 (hG : Gk n A W) : gR (ovk A W K σ) (A 0 0) 10 0 = some (A 1 0) := ovk_gR hG ⟨by decide, rfl⟩ (fun _ => rfl) rfl
theorem xR_0_1 (hG : Gk n A W) : gR (ovk A W K σ) (A 0 0) 10 1 = some (A 2 0) := ovk_gR hG ⟨by decide, rfl⟩ (fun _ => rfl) rfl
theorem xR_0_2 (hG : Gk n A W) : gR (ovk A W K σ) (A 0 0) 10 2 = some (A 4 0) := ovk_gR hG ⟨by decide, rfl⟩ (fun _ => rfl) rfl
theorem xR_0_3 (hG : Gk n A W) : gR (ovk A W K σ) (A 0 0) 10 3 = some (A 5 0) := ovk_gR hG ⟨by decide, rfl⟩ (fun _ => rfl) rfl
theorem xR_0_4 (hG : Gk n A W) : gR (ovk A W K σ) (A 0 0) 10 4 = some (A 6 0) := ovk_gR hG ⟨by decide, rfl⟩ (fun _ => rfl) rfl
theorem xR_0_5 (hG : Gk n A W) : gR (ovk A W K σ) (A 0 0) 10 5 = some (A 7 0) := ovk_gR hG ⟨by decide, rfl⟩ (fun _ => rfl) rfl
theorem xR_0_6 (hG : Gk n A W) : gR (ovk A W K σ) (A 0 0) 10 6 = some (A 8 0) := ovk_gR hG ⟨by decide, rfl⟩ (fun _ => rfl) rfl
theorem xI_0_7 (hG : Gk n A W) : gI (ovk A W K σ) (A 0 0) 10 7 = some (K.1 0 0 7) := ovk_gI hG ⟨by decide, rfl⟩ (fun _ => rfl) rfl
theorem xP_0_7 (hG : Gk n A W) : pF (ovk A W K σ) (A 0 0) 10 7 (.int v) = some (ovk A W (kI K 0 0 7 v) σ) := ovk_pI hG ⟨by decide, rfl⟩ (fun _ => rfl) rfl
theorem xR_0_8 (hG : Gk n A W) : gR (ovk A W K σ) (A 0 0) 10 8 = some (A 9 0) := ovk_gR hG ⟨by decide, rfl⟩ (fun _ => rfl) rfl
theorem xR_0_9 (hG : Gk n A W) : gR (ovk A W K σ) (A 0 0) 10 9 = some (A 13 0) := ovk_gR hG ⟨by decide, rfl⟩ (fun _ => rfl) rfl
theorem xR_0_10 (hG : Gk n A W) : gR (ovk A W K σ) (A 0 0) 10 10 = some (A 17 0) := ovk_gR hG ⟨by decide, rfl⟩ (fun _ => rfl) rfl
theorem xO_2 (hG : Gk n A W) : isO (ovk A W K σ) (A 2 0) 8 = some () := ovk_isO hG ⟨by decide, rfl⟩ (fun _ => rfl)
theorem xR_2_0 (hG : Gk n A W) : gR (ovk A W K σ) (A 2 0) 8 0 = some (A 3 0) := ovk_gR hG ⟨by decide, rfl⟩ (fun _ => rfl) rfl
theorem xI_2_1 (hG : Gk n A W) : gI (ovk A W K σ) (A 2 0) 8 1 = some (K.1 2 0 1) := ovk_gI hG ⟨by decide, rfl⟩ (fun _ => rfl) rfl
theorem xP_2_1 (hG : Gk n A W) : pF (ovk A W K σ) (A 2 0) 8 1 (.int v) = some (ovk A W (kI K 2 0 1 v) σ) := ovk_pI hG ⟨by decide, rfl⟩ (fun _ => rfl) rfl
theorem xO_9 (hG : Gk n A W) : isO (ovk A W K σ) (A 9 0) 6 = some () := ovk_isO hG ⟨by decide, rfl⟩ (fun _ => rfl)
theorem xR_9_0 (hG : Gk n A W) : gR (ovk A W K σ) (A 9 0) 6 0 = some (A 10 0) := ovk_gR hG ⟨by decide, rfl⟩ (fun _ => rfl) rfl
theorem xI_9_1 (hG : Gk n A W) : gI (ovk A W K σ) (A 9 0) 6 1 = some (K.1 9 0 1) := ovk_gI hG ⟨by decide, rfl⟩ (fun _ => rfl) rfl
theorem xP_9_1 (hG : Gk n A W) : pF (ovk A W K σ) (A 9 0) 6 1 (.int v) = some (ovk A W (kI K 9 0 1 v) σ) := ovk_pI hG ⟨by decide, rfl⟩ (fun _ => rfl) rfl
theorem xR_9_2 (hG : Gk n A W) : gR (ovk A W K σ) (A 9 0) 6 2 = some (A 11 0) := ovk_gR hG ⟨by decide, rfl⟩ (fun _ => rfl) rfl
theorem xI_9_3 (hG : Gk n A W) : gI (ovk A W K σ) (A 9 0) 6 3 = some (K.1 9 0 3) := ovk_gI hG ⟨by decide, rfl⟩ (fun _ => rfl) rfl
theorem xP_9_3 (hG : Gk n A W) : pF (ovk A W K σ) (A 9 0) 6 3 (.int v) = some (ovk A W (kI K 9 0 3 v) σ) := ovk_pI hG ⟨by decide, rfl⟩ (fun _ => rfl) rfl
theorem xR_9_4 (hG : Gk n A W) : gR (ovk A W K σ) (A 9 0) 6 4 = some (A 12 0) := ovk_gR hG ⟨by decide, rfl⟩ (fun _ => rfl) rfl
theorem xI_9_5 (hG : Gk n A W) : gL (ovk A W K σ) (A 9 0) 6 5 = some (K.2.1 9 0 5) := ovk_gL hG ⟨by decide, rfl⟩ (fun _ => rfl) rfl
theorem xP_9_5 (hG : Gk n A W) : pF (ovk A W K σ) (A 9 0) 6 5 (.long w) = some (ovk A W (kL K 9 0 5 w) σ) := ovk_pL hG ⟨by decide, rfl⟩ (fun _ => rfl) rfl
theorem xO_13 (hG : Gk n A W) : isO (ovk A W K σ) (A 13 0) 4 = some () := ovk_isO hG ⟨by decide, rfl⟩ (fun _ => rfl)
theorem xR_13_0 (hG : Gk n A W) : gR (ovk A W K σ) (A 13 0) 4 0 = some (A 14 0) := ovk_gR hG ⟨by decide, rfl⟩ (fun _ => rfl) rfl
theorem xR_13_1 (hG : Gk n A W) : gR (ovk A W K σ) (A 13 0) 4 1 = some (A 15 0) := ovk_gR hG ⟨by decide, rfl⟩ (fun _ => rfl) rfl
theorem xR_13_2 (hG : Gk n A W) : gR (ovk A W K σ) (A 13 0) 4 2 = some (A 16 0) := ovk_gR hG ⟨by decide, rfl⟩ (fun _ => rfl) rfl
theorem xI_13_3 (hG : Gk n A W) : gI (ovk A W K σ) (A 13 0) 4 3 = some (K.1 13 0 3) := ovk_gI hG ⟨by decide, rfl⟩ (fun _ => rfl) rfl
theorem xP_13_3 (hG : Gk n A W) : pF (ovk A W K σ) (A 13 0) 4 3 (.int v) = some (ovk A W (kI K 13 0 3 v) σ) := ovk_pI hG ⟨by decide, rfl⟩ (fun _ => rfl) rfl
theorem xI_13_4 (hG : Gk n A W) : gL (ovk A W K σ) (A 13 0) 4 4 = some (K.2.1 13 0 4) := ovk_gL hG ⟨by decide, rfl⟩ (fun _ => rfl) rfl
theorem xP_13_4 (hG : Gk n A W) : pF (ovk A W K σ) (A 13 0) 4 4 (.long w) = some (ovk A W (kL K 13 0 4 w) σ) := ovk_pL hG ⟨by decide, rfl⟩ (fun _ => rfl) rfl
theorem xO_17 (hG : Gk n A W) : isO (ovk A W K σ) (A 17 0) 3 = some () := ovk_isO hG ⟨by decide, rfl⟩ (fun _ => rfl)
theorem xR_17_0 (hG : Gk n A W) : gR (ovk A W K σ) (A 17 0) 3 0 = some (A 18 0) := ovk_gR hG ⟨by decide, rfl⟩ (fun _ => rfl) rfl
theorem xR_17_1 (hG : Gk n A W) : gR (ovk A W K σ) (A 17 0) 3 1 = some (A 19 0) := ovk_gR hG ⟨by decide, rfl⟩ (fun _ => rfl) rfl
theorem xR_17_2 (hG : Gk n A W) : gR (ovk A W K σ) (A 17 0) 3 2 = some (A 20 0) := ovk_gR hG ⟨by decide, rfl⟩ (fun _ => rfl) rfl
theorem xR_17_3 (hG : Gk n A W) : gR (ovk A W K σ) (A 17 0) 3 3 = some (A 21 0) := ovk_gR hG ⟨by decide, rfl⟩ (fun _ => rfl) rfl
theorem xI_17_4 (hG : Gk n A W) : gI (ovk A W K σ) (A 17 0) 3 4 = some (K.1 17 0 4) := ovk_gI hG ⟨by decide, rfl⟩ (fun _ => rfl) rfl
theorem xP_17_4 (hG : Gk n A W) : pF (ovk A W K σ) (A 17 0) 3 4 (.int v) = some (ovk A W (kI K 17 0 4 v) σ) := ovk_pI hG ⟨by decide, rfl⟩ (fun _ => rfl) rfl
theorem xR_17_5 (hG : Gk n A W) : gR (ovk A W K σ) (A 17 0) 3 5 = some (A 22 0) := ovk_gR hG ⟨by decide, rfl⟩ (fun _ => rfl) rfl
theorem xR_17_6 (hG : Gk n A W) : gR (ovk A W K σ) (A 17 0) 3 6 = some (A 23 0) := ovk_gR hG ⟨by decide, rfl⟩ (fun _ => rfl) rfl
theorem xR_17_7 (hG : Gk n A W) : gR (ovk A W K σ) (A 17 0) 3 7 = some (A 24 0) := ovk_gR hG ⟨by decide, rfl⟩ (fun _ => rfl) rfl
theorem xI_17_8 (hG : Gk n A W) : gI (ovk A W K σ) (A 17 0) 3 8 = some (K.1 17 0 8) := ovk_gI hG ⟨by decide, rfl⟩ (fun _ => rfl) rfl
theorem xP_17_8 (hG : Gk n A W) : pF (ovk A W K σ) (A 17 0) 3 8 (.int v) = some (ovk A W (kI K 17 0 8 v) σ) := ovk_pI hG ⟨by decide, rfl⟩ (fun _ => rfl) rfl
theorem xI_17_9 (hG : Gk n A W) : gI (ovk A W K σ) (A 17 0) 3 9 = some (K.1 17 0 9) := ovk_gI hG ⟨by decide, rfl⟩ (fun _ => rfl) rfl
theorem xP_17_9 (hG : Gk n A W) : pF (ovk A W K σ) (A 17 0) 3 9 (.int v) = some (ovk A W (kI K 17 0 9 v) σ) := ovk_pI hG ⟨by decide, rfl⟩ (fun _ => rfl) rfl
theorem xO_25 (hG : Gk n A W) (hj : j < 4) : isO (ovk A W K σ) (A 25 j) 0 = some () := ovk_isO hG hj (fun _ => rfl)
theorem xI_25_0 (hG : Gk n A W) (hj : j < 4) : gI (ovk A W K σ) (A 25 j) 0 0 = some (K.1 25 j 0) := ovk_gI hG hj (fun _ => rfl) rfl
theorem xP_25_0 (hG : Gk n A W) (hj : j < 4) : pF (ovk A W K σ) (A 25 j) 0 0 (.int v) = some (ovk A W (kI K 25 j 0 v) σ) := ovk_pI hG hj (fun _ => rfl) rfl
theorem xI_25_1 (hG : Gk n A W) (hj : j < 4) : gI (ovk A W K σ) (A 25 j) 0 1 = some (K.1 25 j 1) := ovk_gI hG hj (fun _ => rfl) rfl
theorem xP_25_1 (hG : Gk n A W) (hj : j < 4) : pF (ovk A W K σ) (A 25 j) 0 1 (.int v) = some (ovk A W (kI K 25 j 1 v) σ) := ovk_pI hG hj (fun _ => rfl) rfl
theorem xI_25_2 (hG : Gk n A W) (hj : j < 4) : gI (ovk A W K σ) (A 25 j) 0 2 = some (K.1 25 j 2) := ovk_gI hG hj (fun _ => rfl) rfl
theorem xP_25_2 (hG : Gk n A W) (hj : j < 4) : pF (ovk A W K σ) (A 25 j) 0 2 (.int v) = some (ovk A W (kI K 25 j 2 v) σ) := ovk_pI hG hj (fun _ => rfl) rfl
theorem xO_26 (hG : Gk n A W) (hj : j < 12) : isO (ovk A W K σ) (A 26 j) 7 = some () := ovk_isO hG hj (fun _ => rfl)
theorem xR_26_0 (hG : Gk n A W) (hj : j < 12) : gR (ovk A W K σ) (A 26 j) 7 0 = some (A 27 j) := ovk_gR hG hj (fun _ => rfl) rfl
theorem xR_26_1 (hG : Gk n A W) (hj : j < 12) : gR (ovk A W K σ) (A 26 j) 7 1 = some (A 28 j) := ovk_gR hG hj (fun _ => rfl) rfl
theorem xI_26_2 (hG : Gk n A W) (hj : j < 12) : gI (ovk A W K σ) (A 26 j) 7 2 = some (K.1 26 j 2) := ovk_gI hG hj (fun _ => rfl) rfl
theorem xP_26_2 (hG : Gk n A W) (hj : j < 12) : pF (ovk A W K σ) (A 26 j) 7 2 (.int v) = some (ovk A W (kI K 26 j 2 v) σ) := ovk_pI hG hj (fun _ => rfl) rfl
theorem xO_29 (hG : Gk n A W) (hj : j < n) : isO (ovk A W K σ) (A 29 j) 2 = some () := ovk_isO hG hj (fun _ => rfl)
theorem xI_29_0 (hG : Gk n A W) (hj : j < n) : gI (ovk A W K σ) (A 29 j) 2 0 = some (K.1 29 j 0) := ovk_gI hG hj (fun _ => rfl) rfl
theorem xP_29_0 (hG : Gk n A W) (hj : j < n) : pF (ovk A W K σ) (A 29 j) 2 0 (.int v) = some (ovk A W (kI K 29 j 0 v) σ) := ovk_pI hG hj (fun _ => rfl) rfl
theorem xI_29_1 (hG : Gk n A W) (hj : j < n) : gI (ovk A W K σ) (A 29 j) 2 1 = some (K.1 29 j 1) := ovk_gI hG hj (fun _ => rfl) rfl
theorem xP_29_1 (hG : Gk n A W) (hj : j < n) : pF (ovk A W K σ) (A 29 j) 2 1 (.int v) = some (ovk A W (kI K 29 j 1 v) σ) := ovk_pI hG hj (fun _ => rfl) rfl
theorem xI_29_2 (hG : Gk n A W) (hj : j < n) : gI (ovk A W K σ) (A 29 j) 2 2 = some (K.1 29 j 2) := ovk_gI hG hj (fun _ => rfl) rfl
theorem xP_29_2 (hG : Gk n A W) (hj : j < n) : pF (ovk A W K σ) (A 29 j) 2 2 (.int v) = some (ovk A W (kI K 29 j 2 v) σ) := ovk_pI hG hj (fun _ => rfl) rfl
theorem xI_29_3 (hG : Gk n A W) (hj : j < n) : gI (ovk A W K σ) (A 29 j) 2 3 = some (K.1 29 j 3) := ovk_gI hG hj (fun _ => rfl) rfl
theorem xP_29_3 (hG : Gk n A W) (hj : j < n) : pF (ovk A W K σ) (A 29 j) 2 3 (.int v) = some (ovk A W (kI K 29 j 3 v) σ) := ovk_pI hG hj (fun _ => rfl) rfl
theorem xR_29_4 (hG : Gk n A W) (hj : j < n) : gR (ovk A W K σ) (A 29 j) 2 4 = some (A 30 j) := ovk_gR hG hj (fun _ => rfl) rfl
theorem xR_29_5 (hG : Gk n A W) (hj : j < n) : gR (ovk A W K σ) (A 29 j) 2 5 = some (A 31 j) := ovk_gR hG hj (fun _ => rfl) rfl
theorem xA_1 (hG : Gk n A W) : aQ (ovk A W K σ) (A 1 0) 4 i = if inB i 12 = true then some (rk A (K.2.2.1 1) 1 i.toNatClampNeg) else none := ovk_aQ hG ⟨by decide, rfl⟩ rfl (by decide)
theorem xS_1 {p : Nat} (hG : Gk n A W) (hv : isO (ovk A W K σ) p 9 = some ()) : sQ (ovk A W K σ) (A 1 0) 4 i p = if inB i 12 = true then some (ovk A W (kR K 1 i.toNatClampNeg (some p)) σ) else none := ovk_sQ hG ⟨by decide, rfl⟩ (fun j h => h.2) (fun r q => rfl) rfl (by decide) hv
theorem xA_3 (hG : Gk n A W) : aI (ovk A W K σ) (A 3 0) 0 i = if inB i 24 = true then some (K.1 3 0 i.toNatClampNeg) else none := ovk_aI hG ⟨by decide, rfl⟩ rfl (by decide) (by decide)
theorem xS_3 (hG : Gk n A W) : sI (ovk A W K σ) (A 3 0) 0 i v = if inB i 24 = true then some (ovk A W (kI K 3 0 i.toNatClampNeg v) σ) else none := ovk_sI hG ⟨by decide, rfl⟩ rfl (by decide) (by decide)
theorem xA_4 (hG : Gk n A W) : aQ (ovk A W K σ) (A 4 0) 5 i = if inB i 4 = true then some (rk A (K.2.2.1 4) 4 i.toNatClampNeg) else none := ovk_aQ hG ⟨by decide, rfl⟩ rfl (by decide)
theorem xA_5 (hG : Gk n A W) : aQ (ovk A W K σ) (A 5 0) 4 i = if inB i 16 = true then some (rk A (K.2.2.1 5) 5 i.toNatClampNeg) else none := ovk_aQ hG ⟨by decide, rfl⟩ rfl (by decide)
theorem xS_5 {p : Nat} (hG : Gk n A W) (hv : isO (ovk A W K σ) p 9 = some ()) : sQ (ovk A W K σ) (A 5 0) 4 i p = if inB i 16 = true then some (ovk A W (kR K 5 i.toNatClampNeg (some p)) σ) else none := ovk_sQ hG ⟨by decide, rfl⟩ (fun j h => h.2) (fun r q => rfl) rfl (by decide) hv
theorem xA_6 (hG : Gk n A W) : aQ (ovk A W K σ) (A 6 0) 6 i = if inB i 6 = true then some (rk A (K.2.2.1 6) 6 i.toNatClampNeg) else none := ovk_aQ hG ⟨by decide, rfl⟩ rfl (by decide)
theorem xA_7 (hG : Gk n A W) : aQ (ovk A W K σ) (A 7 0) 6 i = if inB i 6 = true then some (rk A (K.2.2.1 7) 7 i.toNatClampNeg) else none := ovk_aQ hG ⟨by decide, rfl⟩ rfl (by decide)
theorem xA_8 (hG : Gk n A W) : aQ (ovk A W K σ) (A 8 0) 7 i = if inB i 20 = true then some (rk A (K.2.2.1 8) 8 i.toNatClampNeg) else none := ovk_aQ hG ⟨by decide, rfl⟩ rfl (by decide)
theorem xS_8 {p : Nat} (hG : Gk n A W) (hv : isO (ovk A W K σ) p 2 = some ()) : sQ (ovk A W K σ) (A 8 0) 7 i p = if inB i 20 = true then some (ovk A W (kR K 8 i.toNatClampNeg (some p)) σ) else none := ovk_sQ hG ⟨by decide, rfl⟩ (fun j h => h.2) (fun r q => rfl) rfl (by decide) hv
theorem xA_10 (hG : Gk n A W) : aI (ovk A W K σ) (A 10 0) 1 i = if inB i 12 = true then some (K.1 10 0 i.toNatClampNeg) else none := ovk_aI hG ⟨by decide, rfl⟩ rfl (by decide) (by decide)
theorem xS_10 (hG : Gk n A W) : sI (ovk A W K σ) (A 10 0) 1 i v = if inB i 12 = true then some (ovk A W (kI K 10 0 i.toNatClampNeg v) σ) else none := ovk_sI hG ⟨by decide, rfl⟩ rfl (by decide) (by decide)
theorem xA_11 (hG : Gk n A W) : aL (ovk A W K σ) (A 11 0) 2 i = if inB i 12 = true then some (K.2.1 11 0 i.toNatClampNeg) else none := ovk_aL hG ⟨by decide, rfl⟩ rfl
theorem xS_11 (hG : Gk n A W) : sL (ovk A W K σ) (A 11 0) 2 i w = if inB i 12 = true then some (ovk A W (kL K 11 0 i.toNatClampNeg w) σ) else none := ovk_sL hG ⟨by decide, rfl⟩ rfl
theorem xA_12 (hG : Gk n A W) : aL (ovk A W K σ) (A 12 0) 2 i = if inB i 12 = true then some (K.2.1 12 0 i.toNatClampNeg) else none := ovk_aL hG ⟨by decide, rfl⟩ rfl
theorem xS_12 (hG : Gk n A W) : sL (ovk A W K σ) (A 12 0) 2 i w = if inB i 12 = true then some (ovk A W (kL K 12 0 i.toNatClampNeg w) σ) else none := ovk_sL hG ⟨by decide, rfl⟩ rfl
theorem xA_14 (hG : Gk n A W) : aL (ovk A W K σ) (A 14 0) 2 i = if inB i 120 = true then some (K.2.1 14 0 i.toNatClampNeg) else none := ovk_aL hG ⟨by decide, rfl⟩ rfl
theorem xS_14 (hG : Gk n A W) : sL (ovk A W K σ) (A 14 0) 2 i w = if inB i 120 = true then some (ovk A W (kL K 14 0 i.toNatClampNeg w) σ) else none := ovk_sL hG ⟨by decide, rfl⟩ rfl
theorem xA_15 (hG : Gk n A W) : aL (ovk A W K σ) (A 15 0) 2 i = if inB i 120 = true then some (K.2.1 15 0 i.toNatClampNeg) else none := ovk_aL hG ⟨by decide, rfl⟩ rfl
theorem xS_15 (hG : Gk n A W) : sL (ovk A W K σ) (A 15 0) 2 i w = if inB i 120 = true then some (ovk A W (kL K 15 0 i.toNatClampNeg w) σ) else none := ovk_sL hG ⟨by decide, rfl⟩ rfl
theorem xA_16 (hG : Gk n A W) : aL (ovk A W K σ) (A 16 0) 2 i = if inB i 120 = true then some (K.2.1 16 0 i.toNatClampNeg) else none := ovk_aL hG ⟨by decide, rfl⟩ rfl
theorem xS_16 (hG : Gk n A W) : sL (ovk A W K σ) (A 16 0) 2 i w = if inB i 120 = true then some (ovk A W (kL K 16 0 i.toNatClampNeg w) σ) else none := ovk_sL hG ⟨by decide, rfl⟩ rfl
theorem xA_18 (hG : Gk n A W) : aI (ovk A W K σ) (A 18 0) 1 i = if inB i 200 = true then some (K.1 18 0 i.toNatClampNeg) else none := ovk_aI hG ⟨by decide, rfl⟩ rfl (by decide) (by decide)
theorem xS_18 (hG : Gk n A W) : sI (ovk A W K σ) (A 18 0) 1 i v = if inB i 200 = true then some (ovk A W (kI K 18 0 i.toNatClampNeg v) σ) else none := ovk_sI hG ⟨by decide, rfl⟩ rfl (by decide) (by decide)
theorem xA_19 (hG : Gk n A W) : aI (ovk A W K σ) (A 19 0) 1 i = if inB i 200 = true then some (K.1 19 0 i.toNatClampNeg) else none := ovk_aI hG ⟨by decide, rfl⟩ rfl (by decide) (by decide)
theorem xS_19 (hG : Gk n A W) : sI (ovk A W K σ) (A 19 0) 1 i v = if inB i 200 = true then some (ovk A W (kI K 19 0 i.toNatClampNeg v) σ) else none := ovk_sI hG ⟨by decide, rfl⟩ rfl (by decide) (by decide)
theorem xA_20 (hG : Gk n A W) : aL (ovk A W K σ) (A 20 0) 2 i = if inB i 200 = true then some (K.2.1 20 0 i.toNatClampNeg) else none := ovk_aL hG ⟨by decide, rfl⟩ rfl
theorem xS_20 (hG : Gk n A W) : sL (ovk A W K σ) (A 20 0) 2 i w = if inB i 200 = true then some (ovk A W (kL K 20 0 i.toNatClampNeg w) σ) else none := ovk_sL hG ⟨by decide, rfl⟩ rfl
theorem xA_21 (hG : Gk n A W) : aI (ovk A W K σ) (A 21 0) 1 i = if inB i 200 = true then some (K.1 21 0 i.toNatClampNeg) else none := ovk_aI hG ⟨by decide, rfl⟩ rfl (by decide) (by decide)
theorem xS_21 (hG : Gk n A W) : sI (ovk A W K σ) (A 21 0) 1 i v = if inB i 200 = true then some (ovk A W (kI K 21 0 i.toNatClampNeg v) σ) else none := ovk_sI hG ⟨by decide, rfl⟩ rfl (by decide) (by decide)
theorem xA_22 (hG : Gk n A W) : aI (ovk A W K σ) (A 22 0) 1 i = if inB i 220 = true then some (K.1 22 0 i.toNatClampNeg) else none := ovk_aI hG ⟨by decide, rfl⟩ rfl (by decide) (by decide)
theorem xS_22 (hG : Gk n A W) : sI (ovk A W K σ) (A 22 0) 1 i v = if inB i 220 = true then some (ovk A W (kI K 22 0 i.toNatClampNeg v) σ) else none := ovk_sI hG ⟨by decide, rfl⟩ rfl (by decide) (by decide)
theorem xA_23 (hG : Gk n A W) : aI (ovk A W K σ) (A 23 0) 1 i = if inB i 220 = true then some (K.1 23 0 i.toNatClampNeg) else none := ovk_aI hG ⟨by decide, rfl⟩ rfl (by decide) (by decide)
theorem xS_23 (hG : Gk n A W) : sI (ovk A W K σ) (A 23 0) 1 i v = if inB i 220 = true then some (ovk A W (kI K 23 0 i.toNatClampNeg v) σ) else none := ovk_sI hG ⟨by decide, rfl⟩ rfl (by decide) (by decide)
theorem xA_24 (hG : Gk n A W) : aI (ovk A W K σ) (A 24 0) 1 i = if inB i 220 = true then some (K.1 24 0 i.toNatClampNeg) else none := ovk_aI hG ⟨by decide, rfl⟩ rfl (by decide) (by decide)
theorem xS_24 (hG : Gk n A W) : sI (ovk A W K σ) (A 24 0) 1 i v = if inB i 220 = true then some (ovk A W (kI K 24 0 i.toNatClampNeg v) σ) else none := ovk_sI hG ⟨by decide, rfl⟩ rfl (by decide) (by decide)
theorem xA_27 (hG : Gk n A W) (hj : j < 12) : aI (ovk A W K σ) (A 27 j) 1 i = if inB i (K.2.2.2 27 j) = true then some (K.1 27 j i.toNatClampNeg) else none := ovk_aI hG hj rfl (by decide) (by decide)
theorem xS_27 (hG : Gk n A W) (hj : j < 12) : sI (ovk A W K σ) (A 27 j) 1 i v = if inB i (K.2.2.2 27 j) = true then some (ovk A W (kI K 27 j i.toNatClampNeg v) σ) else none := ovk_sI hG hj rfl (by decide) (by decide)
theorem xN_27 (hG : Gk n A W) (hj : j < 12) : aN (ovk A W K σ) (A 27 j) 1 = some (Int32.ofNat (K.2.2.2 27 j)) := ovk_aN hG hj rfl
theorem xA_28 (hG : Gk n A W) (hj : j < 12) : aI (ovk A W K σ) (A 28 j) 1 i = if inB i (K.2.2.2 28 j) = true then some (K.1 28 j i.toNatClampNeg) else none := ovk_aI hG hj rfl (by decide) (by decide)
theorem xS_28 (hG : Gk n A W) (hj : j < 12) : sI (ovk A W K σ) (A 28 j) 1 i v = if inB i (K.2.2.2 28 j) = true then some (ovk A W (kI K 28 j i.toNatClampNeg v) σ) else none := ovk_sI hG hj rfl (by decide) (by decide)
theorem xN_28 (hG : Gk n A W) (hj : j < 12) : aN (ovk A W K σ) (A 28 j) 1 = some (Int32.ofNat (K.2.2.2 28 j)) := ovk_aN hG hj rfl
theorem xA_30 (hG : Gk n A W) (hj : j < n) : aL (ovk A W K σ) (A 30 j) 2 i = if inB i 12 = true then some (K.2.1 30 j i.toNatClampNeg) else none := ovk_aL hG hj rfl
theorem xS_30 (hG : Gk n A W) (hj : j < n) : sL (ovk A W K σ) (A 30 j) 2 i w = if inB i 12 = true then some (ovk A W (kL K 30 j i.toNatClampNeg w) σ) else none := ovk_sL hG hj rfl
theorem xA_31 (hG : Gk n A W) (hj : j < n) : aI (ovk A W K σ) (A 31 j) 1 i = if inB i 12 = true then some (K.1 31 j i.toNatClampNeg) else none := ovk_aI hG hj rfl (by decide) (by decide)
theorem xS_31 (hG : Gk n A W) (hj : j < n) : sI (ovk A W K σ) (A 31 j) 1 i v = if inB i 12 = true then some (ovk A W (kI K 31 j i.toNatClampNeg v) σ) else none := ovk_sI hG hj rfl (by decide) (by decide)
end XR
