/-! ===== the reference as a record: its numbers, its rows of ints, its rows of longs ===== -/
abbrev MS : Type := (Nat → Int32) × (Nat → Nat → Int32) × (Nat → Nat → Int64)
def mTab : List (Nat × Nat × Nat) := [(0, 1, 2400), (1, 1, 10), (3, 2, 12), (4, 1, 12), (5, 3, 12), (6, 0, 24), (9, 1, 4), (10, 1, 4), (11, 0, 4), (12, 2, 16), (13, 1, 16), (14, 1, 65536), (15, 1, 65536), (16, 1, 65536), (17, 1, 65536), (18, 1, 6), (19, 1, 6), (22, 1, 20), (23, 1, 20), (24, 1, 20), (25, 3, 20), (26, 3, 20), (27, 2, 240), (28, 1, 240), (30, 1, 12), (31, 2, 12), (32, 2, 12), (35, 2, 120), (36, 2, 120), (37, 2, 120), (38, 2, 120), (39, 2, 120), (40, 2, 120), (42, 1, 200), (43, 1, 200), (44, 1, 200), (45, 2, 200), (48, 1, 600), (49, 1, 600), (50, 1, 600)]
def mOffs : List Nat := [1, 2, 0, 3, 4, 5, 6, 0, 0, 7, 8, 9, 10, 11, 12, 13, 14, 15, 16, 17, 0, 0, 18, 19, 20, 21, 22, 23, 24, 0, 25, 26, 27, 0, 0, 28, 29, 30, 31, 32, 33, 0, 34, 35, 36, 37, 0, 0, 38, 39, 40, 0]
def mOff (k : Nat) : Nat := mOffs.getD k 0
def mEnt (mb : Nat) (M : MS) : Nat → Option Ent
  | 0 => some (.inl (11, fun k => if mOff k = 0 then .int (M.1 k) else .ref (mb + mOff k)))
  | c + 1 => match mTab[c]? with
    | none => none
    | some q => some (.inr (q.2.1, q.2.2, if q.2.1 = 2 then .inr (.inl (M.2.2 q.1)) else .inl (M.2.1 q.1)))
def ov (mb : Nat) (M : MS) (σ : Sto) : Sto := fun a => if mb ≤ a ∧ a < mb + 41 then mEnt mb M (a - mb) else σ a
def uI (M : MS) (k : Nat) (v : Int32) : MS := (va_up M.1 k v, M.2)
def uA (M : MS) (k i : Nat) (v : Int32) : MS := (M.1, va_up M.2.1 k (va_up (M.2.1 k) i v), M.2.2)
def uL (M : MS) (k i : Nat) (v : Int64) : MS := (M.1, M.2.1, va_up M.2.2 k (va_up (M.2.2 k) i v))
theorem ov_at {mb : Nat} {M : MS} {σ : Sto} {c : Nat} (h : c < 41) : ov mb M σ (mb + c) = mEnt mb M c := by
  unfold ov
  rw [if_pos ⟨by omega, by omega⟩, Nat.add_sub_cancel_left]
theorem ov_mb {mb : Nat} {M : MS} {σ : Sto} : ov mb M σ mb = some (.inl (11, fun k => if mOff k = 0 then .int (M.1 k) else .ref (mb + mOff k))) := ov_at (c := 0) (by decide)
theorem ov_isO {mb : Nat} {M : MS} {σ : Sto} : isO (ov mb M σ) mb 11 = some () := by
  unfold isO
  rw [ov_mb]
  rfl
theorem ov_gR {mb : Nat} {M : MS} {σ : Sto} {k c : Nat} (h : mOff k = c) (hc : c ≠ 0) : gR (ov mb M σ) mb 11 k = some (mb + c) := by
  subst h
  unfold gR oF
  rw [ov_mb]
  simp [hc]
theorem ov_gI {mb : Nat} {M : MS} {σ : Sto} {k : Nat} (h : mOff k = 0) : gI (ov mb M σ) mb 11 k = some (M.1 k) := by
  unfold gI oF
  rw [ov_mb]
  simp [h]
theorem ov_pF {mb : Nat} {M : MS} {σ : Sto} {k : Nat} {v : Int32} (h : mOff k = 0) : pF (ov mb M σ) mb 11 k (.int v) = some (ov mb (uI M k v) σ) := by
  unfold pF
  rw [ov_mb]
  simp only [if_true]
  congr 1
  funext a
  by_cases ha : a = mb
  · subst ha
    rw [va_up_self, ov_mb]
    congr 3
    funext j
    by_cases hj : j = k
    · subst hj
      rw [va_up_self, if_pos h]
      simp [uI, va_up_self]
    · rw [va_up_ne _ _ hj]
      simp [uI, va_up_ne _ _ hj]
  · rw [va_up_ne _ _ ha]
    unfold ov
    by_cases hb : mb ≤ a ∧ a < mb + 41
    · rw [if_pos hb, if_pos hb]
      obtain ⟨c, hc⟩ : ∃ c, a - mb = c + 1 := ⟨a - mb - 1, by omega⟩
      rw [hc]
      rfl
    · rw [if_neg hb, if_neg hb]
theorem ov_aE {mb : Nat} {M : MS} {σ : Sto} {c k t n : Nat} (h : mTab[c]? = some (k, t, n)) : aE (ov mb M σ) (mb + (c + 1)) t = some (n, if t = 2 then .inr (.inl (M.2.2 k)) else .inl (M.2.1 k)) := by
  have hc : c < 40 := (List.getElem?_eq_some_iff.mp h).1
  unfold aE
  rw [ov_at (by omega)]
  simp [mEnt, h]
theorem ov_aI {mb : Nat} {M : MS} {σ : Sto} {c k t n : Nat} {i : Int32} (h : mTab[c]? = some (k, t, n)) (ht : t ≠ 2) : aI (ov mb M σ) (mb + (c + 1)) t i = if inB i n = true then some (M.2.1 k i.toNatClampNeg) else none := by
  unfold aI
  rw [ov_aE h, if_neg ht]
theorem ov_aL {mb : Nat} {M : MS} {σ : Sto} {c k n : Nat} {i : Int32} (h : mTab[c]? = some (k, 2, n)) : aL (ov mb M σ) (mb + (c + 1)) 2 i = if inB i n = true then some (M.2.2 k i.toNatClampNeg) else none := by
  unfold aL
  rw [ov_aE h, if_pos rfl]
theorem mTab_inj {c d k t n t' n' : Nat} (h : mTab[c]? = some (k, t, n)) (h' : mTab[d]? = some (k, t', n')) : c = d := by
  have hc : c < 40 := (List.getElem?_eq_some_iff.mp h).1
  have hd : d < 40 := (List.getElem?_eq_some_iff.mp h').1
  have key : ∀ c, c < 40 → ∀ d, d < 40 → (mTab[c]?).map (·.1) = (mTab[d]?).map (·.1) → c = d := by decide
  exact key c hc d hd (by rw [h, h']; rfl)
theorem ov_up {mb : Nat} {M M' : MS} {σ : Sto} {c k t n : Nat} {f : Cn} (h : mTab[c]? = some (k, t, n)) (h0 : M'.1 = M.1) (he : mEnt mb M' (c + 1) = some (.inr (t, n, f))) (ho : ∀ j, j ≠ k → M'.2.1 j = M.2.1 j ∧ M'.2.2 j = M.2.2 j) : va_up (ov mb M σ) (mb + (c + 1)) (some (.inr (t, n, f))) = ov mb M' σ := by
  have hc : c < 40 := (List.getElem?_eq_some_iff.mp h).1
  funext a
  by_cases ha : a = mb + (c + 1)
  · subst ha
    rw [va_up_self, ov_at (by omega), he]
  · rw [va_up_ne _ _ ha]
    unfold ov
    by_cases hb : mb ≤ a ∧ a < mb + 41
    · rw [if_pos hb, if_pos hb]
      cases hj : a - mb with
      | zero =>
        show some (Sum.inl _) = some (Sum.inl _)
        rw [h0]
      | succ d =>
        show (match mTab[d]? with | none => none | some q => _) = (match mTab[d]? with | none => none | some q => _)
        cases hd : mTab[d]? with
        | none => rfl
        | some q =>
          have hq : q.1 ≠ k := by
            intro e
            have := mTab_inj h (c := c) (d := d) (t' := q.2.1) (n' := q.2.2) (by rw [hd, ← e])
            omega
          obtain ⟨o1, o2⟩ := ho q.1 hq
          simp only [o1, o2]
    · rw [if_neg hb, if_neg hb]
theorem ov_sI {mb : Nat} {M : MS} {σ : Sto} {c k t n : Nat} {i v : Int32} (h : mTab[c]? = some (k, t, n)) (ht : t ≠ 2) : sI (ov mb M σ) (mb + (c + 1)) t i v = if inB i n = true then some (ov mb (uA M k i.toNatClampNeg v) σ) else none := by
  unfold sI
  rw [ov_aE h, if_neg ht]
  dsimp only
  by_cases hi : inB i n = true
  · rw [if_pos hi, if_pos hi]
    congr 1
    refine ov_up h rfl ?_ (fun j hj => ⟨by simp [uA, va_up_ne _ _ hj], rfl⟩)
    simp [mEnt, h, ht, uA, va_up_self]
  · rw [if_neg hi, if_neg hi]
theorem ov_sL {mb : Nat} {M : MS} {σ : Sto} {c k n : Nat} {i : Int32} {v : Int64} (h : mTab[c]? = some (k, 2, n)) : sL (ov mb M σ) (mb + (c + 1)) 2 i v = if inB i n = true then some (ov mb (uL M k i.toNatClampNeg v) σ) else none := by
  unfold sL
  rw [ov_aE h, if_pos rfl]
  dsimp only
  by_cases hi : inB i n = true
  · rw [if_pos hi, if_pos hi]
    congr 1
    refine ov_up h rfl ?_ (fun j hj => ⟨rfl, by simp [uL, va_up_ne _ _ hj]⟩)
    simp [mEnt, h, uL, va_up_self]
  · rw [if_neg hi, if_neg hi]
section OV
variable {mb : Nat} {M : MS} {σ : Sto} {i v : Int32} {w : Int64}
theorem oR_0 : gR (ov mb M σ) mb 11 0 = some (mb + 1) := ov_gR rfl (by decide)
theorem oR_1 : gR (ov mb M σ) mb 11 1 = some (mb + 2) := ov_gR rfl (by decide)
theorem oI_2 : gI (ov mb M σ) mb 11 2 = some (M.1 2) := ov_gI rfl
theorem oP_2 : pF (ov mb M σ) mb 11 2 (.int v) = some (ov mb (uI M 2 v) σ) := ov_pF rfl
theorem oR_3 : gR (ov mb M σ) mb 11 3 = some (mb + 3) := ov_gR rfl (by decide)
theorem oR_4 : gR (ov mb M σ) mb 11 4 = some (mb + 4) := ov_gR rfl (by decide)
theorem oR_5 : gR (ov mb M σ) mb 11 5 = some (mb + 5) := ov_gR rfl (by decide)
theorem oR_6 : gR (ov mb M σ) mb 11 6 = some (mb + 6) := ov_gR rfl (by decide)
theorem oI_7 : gI (ov mb M σ) mb 11 7 = some (M.1 7) := ov_gI rfl
theorem oP_7 : pF (ov mb M σ) mb 11 7 (.int v) = some (ov mb (uI M 7 v) σ) := ov_pF rfl
theorem oI_8 : gI (ov mb M σ) mb 11 8 = some (M.1 8) := ov_gI rfl
theorem oP_8 : pF (ov mb M σ) mb 11 8 (.int v) = some (ov mb (uI M 8 v) σ) := ov_pF rfl
theorem oR_9 : gR (ov mb M σ) mb 11 9 = some (mb + 7) := ov_gR rfl (by decide)
theorem oR_10 : gR (ov mb M σ) mb 11 10 = some (mb + 8) := ov_gR rfl (by decide)
theorem oR_11 : gR (ov mb M σ) mb 11 11 = some (mb + 9) := ov_gR rfl (by decide)
theorem oR_12 : gR (ov mb M σ) mb 11 12 = some (mb + 10) := ov_gR rfl (by decide)
theorem oR_13 : gR (ov mb M σ) mb 11 13 = some (mb + 11) := ov_gR rfl (by decide)
theorem oR_14 : gR (ov mb M σ) mb 11 14 = some (mb + 12) := ov_gR rfl (by decide)
theorem oR_15 : gR (ov mb M σ) mb 11 15 = some (mb + 13) := ov_gR rfl (by decide)
theorem oR_16 : gR (ov mb M σ) mb 11 16 = some (mb + 14) := ov_gR rfl (by decide)
theorem oR_17 : gR (ov mb M σ) mb 11 17 = some (mb + 15) := ov_gR rfl (by decide)
theorem oR_18 : gR (ov mb M σ) mb 11 18 = some (mb + 16) := ov_gR rfl (by decide)
theorem oR_19 : gR (ov mb M σ) mb 11 19 = some (mb + 17) := ov_gR rfl (by decide)
theorem oI_20 : gI (ov mb M σ) mb 11 20 = some (M.1 20) := ov_gI rfl
theorem oP_20 : pF (ov mb M σ) mb 11 20 (.int v) = some (ov mb (uI M 20 v) σ) := ov_pF rfl
theorem oI_21 : gI (ov mb M σ) mb 11 21 = some (M.1 21) := ov_gI rfl
theorem oP_21 : pF (ov mb M σ) mb 11 21 (.int v) = some (ov mb (uI M 21 v) σ) := ov_pF rfl
theorem oR_22 : gR (ov mb M σ) mb 11 22 = some (mb + 18) := ov_gR rfl (by decide)
theorem oR_23 : gR (ov mb M σ) mb 11 23 = some (mb + 19) := ov_gR rfl (by decide)
theorem oR_24 : gR (ov mb M σ) mb 11 24 = some (mb + 20) := ov_gR rfl (by decide)
theorem oR_25 : gR (ov mb M σ) mb 11 25 = some (mb + 21) := ov_gR rfl (by decide)
theorem oR_26 : gR (ov mb M σ) mb 11 26 = some (mb + 22) := ov_gR rfl (by decide)
theorem oR_27 : gR (ov mb M σ) mb 11 27 = some (mb + 23) := ov_gR rfl (by decide)
theorem oR_28 : gR (ov mb M σ) mb 11 28 = some (mb + 24) := ov_gR rfl (by decide)
theorem oI_29 : gI (ov mb M σ) mb 11 29 = some (M.1 29) := ov_gI rfl
theorem oP_29 : pF (ov mb M σ) mb 11 29 (.int v) = some (ov mb (uI M 29 v) σ) := ov_pF rfl
theorem oR_30 : gR (ov mb M σ) mb 11 30 = some (mb + 25) := ov_gR rfl (by decide)
theorem oR_31 : gR (ov mb M σ) mb 11 31 = some (mb + 26) := ov_gR rfl (by decide)
theorem oR_32 : gR (ov mb M σ) mb 11 32 = some (mb + 27) := ov_gR rfl (by decide)
theorem oI_33 : gI (ov mb M σ) mb 11 33 = some (M.1 33) := ov_gI rfl
theorem oP_33 : pF (ov mb M σ) mb 11 33 (.int v) = some (ov mb (uI M 33 v) σ) := ov_pF rfl
theorem oI_34 : gI (ov mb M σ) mb 11 34 = some (M.1 34) := ov_gI rfl
theorem oP_34 : pF (ov mb M σ) mb 11 34 (.int v) = some (ov mb (uI M 34 v) σ) := ov_pF rfl
theorem oR_35 : gR (ov mb M σ) mb 11 35 = some (mb + 28) := ov_gR rfl (by decide)
theorem oR_36 : gR (ov mb M σ) mb 11 36 = some (mb + 29) := ov_gR rfl (by decide)
theorem oR_37 : gR (ov mb M σ) mb 11 37 = some (mb + 30) := ov_gR rfl (by decide)
theorem oR_38 : gR (ov mb M σ) mb 11 38 = some (mb + 31) := ov_gR rfl (by decide)
theorem oR_39 : gR (ov mb M σ) mb 11 39 = some (mb + 32) := ov_gR rfl (by decide)
theorem oR_40 : gR (ov mb M σ) mb 11 40 = some (mb + 33) := ov_gR rfl (by decide)
theorem oI_41 : gI (ov mb M σ) mb 11 41 = some (M.1 41) := ov_gI rfl
theorem oP_41 : pF (ov mb M σ) mb 11 41 (.int v) = some (ov mb (uI M 41 v) σ) := ov_pF rfl
theorem oR_42 : gR (ov mb M σ) mb 11 42 = some (mb + 34) := ov_gR rfl (by decide)
theorem oR_43 : gR (ov mb M σ) mb 11 43 = some (mb + 35) := ov_gR rfl (by decide)
theorem oR_44 : gR (ov mb M σ) mb 11 44 = some (mb + 36) := ov_gR rfl (by decide)
theorem oR_45 : gR (ov mb M σ) mb 11 45 = some (mb + 37) := ov_gR rfl (by decide)
theorem oI_46 : gI (ov mb M σ) mb 11 46 = some (M.1 46) := ov_gI rfl
theorem oP_46 : pF (ov mb M σ) mb 11 46 (.int v) = some (ov mb (uI M 46 v) σ) := ov_pF rfl
theorem oI_47 : gI (ov mb M σ) mb 11 47 = some (M.1 47) := ov_gI rfl
theorem oP_47 : pF (ov mb M σ) mb 11 47 (.int v) = some (ov mb (uI M 47 v) σ) := ov_pF rfl
theorem oR_48 : gR (ov mb M σ) mb 11 48 = some (mb + 38) := ov_gR rfl (by decide)
theorem oR_49 : gR (ov mb M σ) mb 11 49 = some (mb + 39) := ov_gR rfl (by decide)
theorem oR_50 : gR (ov mb M σ) mb 11 50 = some (mb + 40) := ov_gR rfl (by decide)
theorem oI_51 : gI (ov mb M σ) mb 11 51 = some (M.1 51) := ov_gI rfl
theorem oP_51 : pF (ov mb M σ) mb 11 51 (.int v) = some (ov mb (uI M 51 v) σ) := ov_pF rfl
theorem oA_0 : aI (ov mb M σ) (mb + 1) 1 i = if inB i 2400 = true then some (M.2.1 0 i.toNatClampNeg) else none := ov_aI (c := 0) rfl (by decide)
theorem oS_0 : sI (ov mb M σ) (mb + 1) 1 i v = if inB i 2400 = true then some (ov mb (uA M 0 i.toNatClampNeg v) σ) else none := ov_sI (c := 0) rfl (by decide)
theorem oA_1 : aI (ov mb M σ) (mb + 2) 1 i = if inB i 10 = true then some (M.2.1 1 i.toNatClampNeg) else none := ov_aI (c := 1) rfl (by decide)
theorem oS_1 : sI (ov mb M σ) (mb + 2) 1 i v = if inB i 10 = true then some (ov mb (uA M 1 i.toNatClampNeg v) σ) else none := ov_sI (c := 1) rfl (by decide)
theorem oA_3 : aL (ov mb M σ) (mb + 3) 2 i = if inB i 12 = true then some (M.2.2 3 i.toNatClampNeg) else none := ov_aL (c := 2) rfl
theorem oS_3 : sL (ov mb M σ) (mb + 3) 2 i w = if inB i 12 = true then some (ov mb (uL M 3 i.toNatClampNeg w) σ) else none := ov_sL (c := 2) rfl
theorem oA_4 : aI (ov mb M σ) (mb + 4) 1 i = if inB i 12 = true then some (M.2.1 4 i.toNatClampNeg) else none := ov_aI (c := 3) rfl (by decide)
theorem oS_4 : sI (ov mb M σ) (mb + 4) 1 i v = if inB i 12 = true then some (ov mb (uA M 4 i.toNatClampNeg v) σ) else none := ov_sI (c := 3) rfl (by decide)
theorem oA_5 : aI (ov mb M σ) (mb + 5) 3 i = if inB i 12 = true then some (M.2.1 5 i.toNatClampNeg) else none := ov_aI (c := 4) rfl (by decide)
theorem oS_5 : sI (ov mb M σ) (mb + 5) 3 i v = if inB i 12 = true then some (ov mb (uA M 5 i.toNatClampNeg v) σ) else none := ov_sI (c := 4) rfl (by decide)
theorem oA_6 : aI (ov mb M σ) (mb + 6) 0 i = if inB i 24 = true then some (M.2.1 6 i.toNatClampNeg) else none := ov_aI (c := 5) rfl (by decide)
theorem oS_6 : sI (ov mb M σ) (mb + 6) 0 i v = if inB i 24 = true then some (ov mb (uA M 6 i.toNatClampNeg v) σ) else none := ov_sI (c := 5) rfl (by decide)
theorem oA_9 : aI (ov mb M σ) (mb + 7) 1 i = if inB i 4 = true then some (M.2.1 9 i.toNatClampNeg) else none := ov_aI (c := 6) rfl (by decide)
theorem oS_9 : sI (ov mb M σ) (mb + 7) 1 i v = if inB i 4 = true then some (ov mb (uA M 9 i.toNatClampNeg v) σ) else none := ov_sI (c := 6) rfl (by decide)
theorem oA_10 : aI (ov mb M σ) (mb + 8) 1 i = if inB i 4 = true then some (M.2.1 10 i.toNatClampNeg) else none := ov_aI (c := 7) rfl (by decide)
theorem oS_10 : sI (ov mb M σ) (mb + 8) 1 i v = if inB i 4 = true then some (ov mb (uA M 10 i.toNatClampNeg v) σ) else none := ov_sI (c := 7) rfl (by decide)
theorem oA_11 : aI (ov mb M σ) (mb + 9) 0 i = if inB i 4 = true then some (M.2.1 11 i.toNatClampNeg) else none := ov_aI (c := 8) rfl (by decide)
theorem oS_11 : sI (ov mb M σ) (mb + 9) 0 i v = if inB i 4 = true then some (ov mb (uA M 11 i.toNatClampNeg v) σ) else none := ov_sI (c := 8) rfl (by decide)
theorem oA_12 : aL (ov mb M σ) (mb + 10) 2 i = if inB i 16 = true then some (M.2.2 12 i.toNatClampNeg) else none := ov_aL (c := 9) rfl
theorem oS_12 : sL (ov mb M σ) (mb + 10) 2 i w = if inB i 16 = true then some (ov mb (uL M 12 i.toNatClampNeg w) σ) else none := ov_sL (c := 9) rfl
theorem oA_13 : aI (ov mb M σ) (mb + 11) 1 i = if inB i 16 = true then some (M.2.1 13 i.toNatClampNeg) else none := ov_aI (c := 10) rfl (by decide)
theorem oS_13 : sI (ov mb M σ) (mb + 11) 1 i v = if inB i 16 = true then some (ov mb (uA M 13 i.toNatClampNeg v) σ) else none := ov_sI (c := 10) rfl (by decide)
theorem oA_14 : aI (ov mb M σ) (mb + 12) 1 i = if inB i 65536 = true then some (M.2.1 14 i.toNatClampNeg) else none := ov_aI (c := 11) rfl (by decide)
theorem oS_14 : sI (ov mb M σ) (mb + 12) 1 i v = if inB i 65536 = true then some (ov mb (uA M 14 i.toNatClampNeg v) σ) else none := ov_sI (c := 11) rfl (by decide)
theorem oA_15 : aI (ov mb M σ) (mb + 13) 1 i = if inB i 65536 = true then some (M.2.1 15 i.toNatClampNeg) else none := ov_aI (c := 12) rfl (by decide)
theorem oS_15 : sI (ov mb M σ) (mb + 13) 1 i v = if inB i 65536 = true then some (ov mb (uA M 15 i.toNatClampNeg v) σ) else none := ov_sI (c := 12) rfl (by decide)
theorem oA_16 : aI (ov mb M σ) (mb + 14) 1 i = if inB i 65536 = true then some (M.2.1 16 i.toNatClampNeg) else none := ov_aI (c := 13) rfl (by decide)
theorem oS_16 : sI (ov mb M σ) (mb + 14) 1 i v = if inB i 65536 = true then some (ov mb (uA M 16 i.toNatClampNeg v) σ) else none := ov_sI (c := 13) rfl (by decide)
theorem oA_17 : aI (ov mb M σ) (mb + 15) 1 i = if inB i 65536 = true then some (M.2.1 17 i.toNatClampNeg) else none := ov_aI (c := 14) rfl (by decide)
theorem oS_17 : sI (ov mb M σ) (mb + 15) 1 i v = if inB i 65536 = true then some (ov mb (uA M 17 i.toNatClampNeg v) σ) else none := ov_sI (c := 14) rfl (by decide)
theorem oA_18 : aI (ov mb M σ) (mb + 16) 1 i = if inB i 6 = true then some (M.2.1 18 i.toNatClampNeg) else none := ov_aI (c := 15) rfl (by decide)
theorem oS_18 : sI (ov mb M σ) (mb + 16) 1 i v = if inB i 6 = true then some (ov mb (uA M 18 i.toNatClampNeg v) σ) else none := ov_sI (c := 15) rfl (by decide)
theorem oA_19 : aI (ov mb M σ) (mb + 17) 1 i = if inB i 6 = true then some (M.2.1 19 i.toNatClampNeg) else none := ov_aI (c := 16) rfl (by decide)
theorem oS_19 : sI (ov mb M σ) (mb + 17) 1 i v = if inB i 6 = true then some (ov mb (uA M 19 i.toNatClampNeg v) σ) else none := ov_sI (c := 16) rfl (by decide)
theorem oA_22 : aI (ov mb M σ) (mb + 18) 1 i = if inB i 20 = true then some (M.2.1 22 i.toNatClampNeg) else none := ov_aI (c := 17) rfl (by decide)
theorem oS_22 : sI (ov mb M σ) (mb + 18) 1 i v = if inB i 20 = true then some (ov mb (uA M 22 i.toNatClampNeg v) σ) else none := ov_sI (c := 17) rfl (by decide)
theorem oA_23 : aI (ov mb M σ) (mb + 19) 1 i = if inB i 20 = true then some (M.2.1 23 i.toNatClampNeg) else none := ov_aI (c := 18) rfl (by decide)
theorem oS_23 : sI (ov mb M σ) (mb + 19) 1 i v = if inB i 20 = true then some (ov mb (uA M 23 i.toNatClampNeg v) σ) else none := ov_sI (c := 18) rfl (by decide)
theorem oA_24 : aI (ov mb M σ) (mb + 20) 1 i = if inB i 20 = true then some (M.2.1 24 i.toNatClampNeg) else none := ov_aI (c := 19) rfl (by decide)
theorem oS_24 : sI (ov mb M σ) (mb + 20) 1 i v = if inB i 20 = true then some (ov mb (uA M 24 i.toNatClampNeg v) σ) else none := ov_sI (c := 19) rfl (by decide)
theorem oA_25 : aI (ov mb M σ) (mb + 21) 3 i = if inB i 20 = true then some (M.2.1 25 i.toNatClampNeg) else none := ov_aI (c := 20) rfl (by decide)
theorem oS_25 : sI (ov mb M σ) (mb + 21) 3 i v = if inB i 20 = true then some (ov mb (uA M 25 i.toNatClampNeg v) σ) else none := ov_sI (c := 20) rfl (by decide)
theorem oA_26 : aI (ov mb M σ) (mb + 22) 3 i = if inB i 20 = true then some (M.2.1 26 i.toNatClampNeg) else none := ov_aI (c := 21) rfl (by decide)
theorem oS_26 : sI (ov mb M σ) (mb + 22) 3 i v = if inB i 20 = true then some (ov mb (uA M 26 i.toNatClampNeg v) σ) else none := ov_sI (c := 21) rfl (by decide)
theorem oA_27 : aL (ov mb M σ) (mb + 23) 2 i = if inB i 240 = true then some (M.2.2 27 i.toNatClampNeg) else none := ov_aL (c := 22) rfl
theorem oS_27 : sL (ov mb M σ) (mb + 23) 2 i w = if inB i 240 = true then some (ov mb (uL M 27 i.toNatClampNeg w) σ) else none := ov_sL (c := 22) rfl
theorem oA_28 : aI (ov mb M σ) (mb + 24) 1 i = if inB i 240 = true then some (M.2.1 28 i.toNatClampNeg) else none := ov_aI (c := 23) rfl (by decide)
theorem oS_28 : sI (ov mb M σ) (mb + 24) 1 i v = if inB i 240 = true then some (ov mb (uA M 28 i.toNatClampNeg v) σ) else none := ov_sI (c := 23) rfl (by decide)
theorem oA_30 : aI (ov mb M σ) (mb + 25) 1 i = if inB i 12 = true then some (M.2.1 30 i.toNatClampNeg) else none := ov_aI (c := 24) rfl (by decide)
theorem oS_30 : sI (ov mb M σ) (mb + 25) 1 i v = if inB i 12 = true then some (ov mb (uA M 30 i.toNatClampNeg v) σ) else none := ov_sI (c := 24) rfl (by decide)
theorem oA_31 : aL (ov mb M σ) (mb + 26) 2 i = if inB i 12 = true then some (M.2.2 31 i.toNatClampNeg) else none := ov_aL (c := 25) rfl
theorem oS_31 : sL (ov mb M σ) (mb + 26) 2 i w = if inB i 12 = true then some (ov mb (uL M 31 i.toNatClampNeg w) σ) else none := ov_sL (c := 25) rfl
theorem oA_32 : aL (ov mb M σ) (mb + 27) 2 i = if inB i 12 = true then some (M.2.2 32 i.toNatClampNeg) else none := ov_aL (c := 26) rfl
theorem oS_32 : sL (ov mb M σ) (mb + 27) 2 i w = if inB i 12 = true then some (ov mb (uL M 32 i.toNatClampNeg w) σ) else none := ov_sL (c := 26) rfl
theorem oA_35 : aL (ov mb M σ) (mb + 28) 2 i = if inB i 120 = true then some (M.2.2 35 i.toNatClampNeg) else none := ov_aL (c := 27) rfl
theorem oS_35 : sL (ov mb M σ) (mb + 28) 2 i w = if inB i 120 = true then some (ov mb (uL M 35 i.toNatClampNeg w) σ) else none := ov_sL (c := 27) rfl
theorem oA_36 : aL (ov mb M σ) (mb + 29) 2 i = if inB i 120 = true then some (M.2.2 36 i.toNatClampNeg) else none := ov_aL (c := 28) rfl
theorem oS_36 : sL (ov mb M σ) (mb + 29) 2 i w = if inB i 120 = true then some (ov mb (uL M 36 i.toNatClampNeg w) σ) else none := ov_sL (c := 28) rfl
theorem oA_37 : aL (ov mb M σ) (mb + 30) 2 i = if inB i 120 = true then some (M.2.2 37 i.toNatClampNeg) else none := ov_aL (c := 29) rfl
theorem oS_37 : sL (ov mb M σ) (mb + 30) 2 i w = if inB i 120 = true then some (ov mb (uL M 37 i.toNatClampNeg w) σ) else none := ov_sL (c := 29) rfl
theorem oA_38 : aL (ov mb M σ) (mb + 31) 2 i = if inB i 120 = true then some (M.2.2 38 i.toNatClampNeg) else none := ov_aL (c := 30) rfl
theorem oS_38 : sL (ov mb M σ) (mb + 31) 2 i w = if inB i 120 = true then some (ov mb (uL M 38 i.toNatClampNeg w) σ) else none := ov_sL (c := 30) rfl
theorem oA_39 : aL (ov mb M σ) (mb + 32) 2 i = if inB i 120 = true then some (M.2.2 39 i.toNatClampNeg) else none := ov_aL (c := 31) rfl
theorem oS_39 : sL (ov mb M σ) (mb + 32) 2 i w = if inB i 120 = true then some (ov mb (uL M 39 i.toNatClampNeg w) σ) else none := ov_sL (c := 31) rfl
theorem oA_40 : aL (ov mb M σ) (mb + 33) 2 i = if inB i 120 = true then some (M.2.2 40 i.toNatClampNeg) else none := ov_aL (c := 32) rfl
theorem oS_40 : sL (ov mb M σ) (mb + 33) 2 i w = if inB i 120 = true then some (ov mb (uL M 40 i.toNatClampNeg w) σ) else none := ov_sL (c := 32) rfl
theorem oA_42 : aI (ov mb M σ) (mb + 34) 1 i = if inB i 200 = true then some (M.2.1 42 i.toNatClampNeg) else none := ov_aI (c := 33) rfl (by decide)
theorem oS_42 : sI (ov mb M σ) (mb + 34) 1 i v = if inB i 200 = true then some (ov mb (uA M 42 i.toNatClampNeg v) σ) else none := ov_sI (c := 33) rfl (by decide)
theorem oA_43 : aI (ov mb M σ) (mb + 35) 1 i = if inB i 200 = true then some (M.2.1 43 i.toNatClampNeg) else none := ov_aI (c := 34) rfl (by decide)
theorem oS_43 : sI (ov mb M σ) (mb + 35) 1 i v = if inB i 200 = true then some (ov mb (uA M 43 i.toNatClampNeg v) σ) else none := ov_sI (c := 34) rfl (by decide)
theorem oA_44 : aI (ov mb M σ) (mb + 36) 1 i = if inB i 200 = true then some (M.2.1 44 i.toNatClampNeg) else none := ov_aI (c := 35) rfl (by decide)
theorem oS_44 : sI (ov mb M σ) (mb + 36) 1 i v = if inB i 200 = true then some (ov mb (uA M 44 i.toNatClampNeg v) σ) else none := ov_sI (c := 35) rfl (by decide)
theorem oA_45 : aL (ov mb M σ) (mb + 37) 2 i = if inB i 200 = true then some (M.2.2 45 i.toNatClampNeg) else none := ov_aL (c := 36) rfl
theorem oS_45 : sL (ov mb M σ) (mb + 37) 2 i w = if inB i 200 = true then some (ov mb (uL M 45 i.toNatClampNeg w) σ) else none := ov_sL (c := 36) rfl
theorem oA_48 : aI (ov mb M σ) (mb + 38) 1 i = if inB i 600 = true then some (M.2.1 48 i.toNatClampNeg) else none := ov_aI (c := 37) rfl (by decide)
theorem oS_48 : sI (ov mb M σ) (mb + 38) 1 i v = if inB i 600 = true then some (ov mb (uA M 48 i.toNatClampNeg v) σ) else none := ov_sI (c := 37) rfl (by decide)
theorem oA_49 : aI (ov mb M σ) (mb + 39) 1 i = if inB i 600 = true then some (M.2.1 49 i.toNatClampNeg) else none := ov_aI (c := 38) rfl (by decide)
theorem oS_49 : sI (ov mb M σ) (mb + 39) 1 i v = if inB i 600 = true then some (ov mb (uA M 49 i.toNatClampNeg v) σ) else none := ov_sI (c := 38) rfl (by decide)
theorem oA_50 : aI (ov mb M σ) (mb + 40) 1 i = if inB i 600 = true then some (M.2.1 50 i.toNatClampNeg) else none := ov_aI (c := 39) rfl (by decide)
theorem oS_50 : sI (ov mb M σ) (mb + 40) 1 i v = if inB i 600 = true then some (ov mb (uA M 50 i.toNatClampNeg v) σ) else none := ov_sI (c := 39) rfl (by decide)
end OV
