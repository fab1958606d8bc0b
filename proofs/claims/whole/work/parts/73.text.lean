/-! ===== the number of a text ===== -/
def nxP (z y : Int32) : Prop := y ≠ 0 ∧ (y = 7 → z = 5) ∧ ((z = 7 ∨ z = 8 ∨ z = 9 ∨ z = 10) → (y = 8 ∨ y = 9 ∨ y = 10 ∨ y = -1)) ∧ (y = 8 → z = 5 ∨ z = 7) ∧ (y = 9 → z = 8) ∧ (y = 10 → z = 9)
theorem nx_more {z : Int32} (hz : okS z) (c : Int32) : nxP z (nx z c) := by
  have con : ∀ d : Int32, (d = 43 ∨ d = 45 ∨ d = 46 ∨ d = 69 ∨ d = 101) → ∀ z : Int32, okS z → nxP z (nx z d) := by
    intro d hd z hz
    unfold nxP
    rcases hd with rfl | rfl | rfl | rfl | rfl <;> rcases hz with rfl | rfl | rfl | rfl | rfl | rfl | rfl | rfl | rfl | rfl | rfl <;> decide
  by_cases h1 : c = 43
  · exact con c (Or.inl h1) z hz
  by_cases h2 : c = 45
  · exact con c (Or.inr (Or.inl h2)) z hz
  by_cases h3 : c = 46
  · exact con c (Or.inr (Or.inr (Or.inl h3))) z hz
  by_cases h4 : c = 69
  · exact con c (Or.inr (Or.inr (Or.inr (Or.inl h4)))) z hz
  by_cases h5 : c = 101
  · exact con c (Or.inr (Or.inr (Or.inr (Or.inr h5)))) z hz
  have fin : ∀ y : Int32, f_X12_next z c = some y → nxP z y → nxP z (nx z c) := by
    intro y a b
    have e : nx z c = y := by unfold nx; rw [a]; rfl
    rw [e]
    exact b
  have m1 : nxP z (-1) := by
    unfold nxP
    rcases hz with rfl | rfl | rfl | rfl | rfl | rfl | rfl | rfl | rfl | rfl | rfl <;> decide
  by_cases h6 : c < 48
  · have o12 : ∀ z, okS z → f_X12_next z c = some (-1) := by
      intro z hz
      simp only [f_X12_next, b_X12_next_16, b_X12_next_17, b_X12_next_35, b_X12_next_53, b_X12_next_200, b_X12_next_251, h6, h1, h2, h3, h4, h5, if_true, if_false]
      rcases hz with rfl | rfl | rfl | rfl | rfl | rfl | rfl | rfl | rfl | rfl | rfl <;> rfl
    exact fin (-1) (o12 z hz) m1
  by_cases h7 : 57 < c
  · have o12 : ∀ z, okS z → f_X12_next z c = some (-1) := by
      intro z hz
      simp only [f_X12_next, b_X12_next_16, b_X12_next_17, b_X12_next_35, b_X12_next_53, b_X12_next_200, b_X12_next_251, h6, h7, h1, h2, h3, h4, h5, if_true, if_false]
      rcases hz with rfl | rfl | rfl | rfl | rfl | rfl | rfl | rfl | rfl | rfl | rfl <;> rfl
    exact fin (-1) (o12 z hz) m1
  have dig : ∀ z y : Int32, (z = 0 ∧ y = 2) ∨ (z = 1 ∧ y = 2) ∨ (z = 2 ∧ y = 2) ∨ (z = 3 ∧ y = 6) ∨ (z = 4 ∧ y = 6) ∨ (z = 5 ∧ y = 8) ∨ (z = 6 ∧ y = 6) ∨ (z = 7 ∧ y = 8) ∨ (z = 8 ∧ y = 9) ∨ (z = 9 ∧ y = 10) ∨ (z = 10 ∧ y = -1) → f_X12_next z c = some y ∧ nxP z y := by
    intro z y hz
    simp only [f_X12_next, b_X12_next_17, b_X12_next_35, b_X12_next_53, b_X12_next_200, b_X12_next_251, h6, h7, h1, h2, h3, h4, h5, if_false]
    unfold nxP
    rcases hz with ⟨rfl, rfl⟩ | ⟨rfl, rfl⟩ | ⟨rfl, rfl⟩ | ⟨rfl, rfl⟩ | ⟨rfl, rfl⟩ | ⟨rfl, rfl⟩ | ⟨rfl, rfl⟩ | ⟨rfl, rfl⟩ | ⟨rfl, rfl⟩ | ⟨rfl, rfl⟩ | ⟨rfl, rfl⟩ <;> exact ⟨rfl, by decide⟩
  have pick : ∃ y : Int32, (z = 0 ∧ y = 2) ∨ (z = 1 ∧ y = 2) ∨ (z = 2 ∧ y = 2) ∨ (z = 3 ∧ y = 6) ∨ (z = 4 ∧ y = 6) ∨ (z = 5 ∧ y = 8) ∨ (z = 6 ∧ y = 6) ∨ (z = 7 ∧ y = 8) ∨ (z = 8 ∧ y = 9) ∨ (z = 9 ∧ y = 10) ∨ (z = 10 ∧ y = -1) := by
    rcases hz with rfl | rfl | rfl | rfl | rfl | rfl | rfl | rfl | rfl | rfl | rfl
    · exact ⟨2, by decide⟩
    · exact ⟨2, by decide⟩
    · exact ⟨2, by decide⟩
    · exact ⟨6, by decide⟩
    · exact ⟨6, by decide⟩
    · exact ⟨8, by decide⟩
    · exact ⟨6, by decide⟩
    · exact ⟨8, by decide⟩
    · exact ⟨9, by decide⟩
    · exact ⟨10, by decide⟩
    · exact ⟨-1, by decide⟩
  obtain ⟨y, p1⟩ := pick
  obtain ⟨d1, d2⟩ := dig z y p1
  exact fin y d1 d2
/-- a digit -/
def dv (c : Int32) : Nat := (c.toInt - 48).toNat
theorem dv_of {c : Int32} (h1 : ¬ c < 48) (h2 : ¬ 57 < c) : dv c ≤ 9 ∧ c = iI ((48 + dv c : Nat) : Int) ∧ c - 48 = iI (dv c : Nat) ∧ f_X9_isDigit c = some 1 := by
  obtain ⟨z, z1, z2, rfl⟩ := iI_of c
  have e1 : iI z < 48 ↔ z < 48 := by rw [iI_lit 48, iI_lt ⟨z1, z2⟩ ⟨by decide, by decide⟩]; rfl
  have e2 : 57 < iI z ↔ 57 < z := by rw [iI_lit 57, iI_lt ⟨by decide, by decide⟩ ⟨z1, z2⟩]; rfl
  have d : dv (iI z) = (z - 48).toNat := by unfold dv; rw [iI_int ⟨z1, z2⟩]
  have g1 : ¬ z < 48 := fun w => h1 (e1.mpr w)
  have g2 : ¬ 57 < z := fun w => h2 (e2.mpr w)
  refine ⟨by omega, congrArg iI (by omega), ?_, ?_⟩
  · rw [iI_lit 48, iI_sub, d]
    exact congrArg iI (by show z - ((48 : Nat) : Int) = _; omega)
  · unfold f_X9_isDigit
    rw [if_neg h1, if_neg h2]
theorem nd_of {c : Int32} (h : c < 48 ∨ 57 < c) : f_X9_isDigit c = some 0 := by
  unfold f_X9_isDigit
  by_cases h1 : c < 48
  · rw [if_pos h1]
  · rw [if_neg h1, if_pos (h.resolve_left h1)]
def tU (f : Nat → Int32) : Nat → Nat
  | 0 => 0
  | k + 1 => if stT f (k + 1) = 2 ∨ stT f (k + 1) = 6 then tU f k * 10 + dv (f k) else tU f k
def tS (f : Nat → Int32) : Nat → Nat
  | 0 => 0
  | k + 1 => if stT f (k + 1) = 6 then tS f k + 1 else tS f k
def tE (f : Nat → Int32) : Nat → Nat
  | 0 => 0
  | k + 1 => if stT f (k + 1) = 8 ∨ stT f (k + 1) = 9 ∨ stT f (k + 1) = 10 then tE f k * 10 + dv (f k) else tE f k
def tN (f : Nat → Int32) : Nat → Bool
  | 0 => false
  | k + 1 => if stT f (k + 1) = 1 then decide (f k = 45) else tN f k
def tX (f : Nat → Int32) : Nat → Bool
  | 0 => false
  | k + 1 => if stT f (k + 1) = 7 then decide (f k = 45) else tX f k
def tZ (f : Nat → Int32) (k : Nat) : Int := if tX f k = true then (tS f k : Int) + tE f k else (tS f k : Int) - tE f k
section TT
variable {f : Nat → Int32} {len k : Nat}
theorem tU_s : tU f (k + 1) = if stT f (k + 1) = 2 ∨ stT f (k + 1) = 6 then tU f k * 10 + dv (f k) else tU f k := rfl
theorem tS_s : tS f (k + 1) = if stT f (k + 1) = 6 then tS f k + 1 else tS f k := rfl
theorem tE_s : tE f (k + 1) = if stT f (k + 1) = 8 ∨ stT f (k + 1) = 9 ∨ stT f (k + 1) = 10 then tE f k * 10 + dv (f k) else tE f k := rfl
theorem tN_s : tN f (k + 1) = if stT f (k + 1) = 1 then decide (f k = 45) else tN f k := rfl
theorem tX_s : tX f (k + 1) = if stT f (k + 1) = 7 then decide (f k = 45) else tX f k := rfl
theorem stT_s : stT f (k + 1) = nx (stT f k) (f k) := rfl
theorem tU_mono {j : Nat} (h : j ≤ k) : tU f j ≤ tU f k := by
  induction k with
  | zero => have : j = 0 := by omega
            subst this; exact Nat.le_refl _
  | succ k ih =>
    by_cases e : j = k + 1
    · subst e; exact Nat.le_refl _
    · have := ih (by omega)
      rw [tU_s]
      split <;> omega
/-- a digit where the states want one -/
theorem st_dig (ok : ∀ j, j ≤ len → okS (stT f j)) (hk : k < len) (h : stT f (k + 1) = 2 ∨ stT f (k + 1) = 6 ∨ stT f (k + 1) = 8 ∨ stT f (k + 1) = 9 ∨ stT f (k + 1) = 10) : dv (f k) ≤ 9 ∧ f k = iI ((48 + dv (f k) : Nat) : Int) ∧ f k - 48 = iI (dv (f k) : Nat) ∧ f_X9_isDigit (f k) = some 1 := by
  obtain ⟨-, -, -, -, -, n6, -, -⟩ := nx_all (ok k (by omega)) (f k)
  obtain ⟨d1, d2⟩ := n6 h
  exact dv_of d1 d2
theorem tU_lt (ok : ∀ j, j ≤ len → okS (stT f j)) (hk : k ≤ len) : tU f k < 10 ^ k := by
  induction k with
  | zero => exact Nat.one_pos
  | succ k ih =>
    have h := ih (by omega)
    rw [tU_s, Nat.pow_succ]
    by_cases e : stT f (k + 1) = 2 ∨ stT f (k + 1) = 6
    · rw [if_pos e]
      have := (st_dig (len := len) (k := k) ok (by omega) (by rcases e with e | e; exact Or.inl e; exact Or.inr (Or.inl e))).1
      omega
    · rw [if_neg e]; omega
theorem tS_le : tS f k ≤ k := by
  induction k with
  | zero => exact Nat.le_refl _
  | succ k ih => rw [tS_s]; split <;> omega
theorem tE_b (ok : ∀ j, j ≤ len → okS (stT f j)) (hk : k ≤ len) : (stT f k = 8 → tE f k ≤ 9) ∧ (stT f k = 9 → tE f k ≤ 99) ∧ (stT f k = 10 → tE f k ≤ 999) ∧ (¬ (stT f k = 8 ∨ stT f k = 9 ∨ stT f k = 10) → tE f k = 0) := by
  induction k with
  | zero => exact ⟨fun w => absurd w (by decide : ¬ (0 : Int32) = 8), fun w => absurd w (by decide : ¬ (0 : Int32) = 9), fun w => absurd w (by decide : ¬ (0 : Int32) = 10), fun _ => rfl⟩
  | succ k ih =>
    obtain ⟨i1, i2, i3, i4⟩ := ih (by omega)
    obtain ⟨-, -, m3, m4, m5, m6⟩ := nx_more (ok k (by omega)) (f k)
    rw [← stT_s] at m3 m4 m5 m6
    have ok1 := ok (k + 1) hk
    by_cases e : stT f (k + 1) = 8 ∨ stT f (k + 1) = 9 ∨ stT f (k + 1) = 10
    · have d := (st_dig ok (by omega) (Or.inr (Or.inr e))).1
      rw [tE_s, if_pos e]
      refine ⟨fun w => ?_, fun w => ?_, fun w => ?_, fun w => absurd e w⟩
      · have : tE f k = 0 := i4 (fun z => by rcases m4 w with q | q <;> rw [q] at z <;> exact absurd z (by decide))
        omega
      · have := i1 (m5 w); omega
      · have := i2 (m6 w); omega
    · have z : tE f k = 0 := i4 (fun z => by
        rcases m3 (by rcases z with z | z | z; exact Or.inr (Or.inl z); exact Or.inr (Or.inr (Or.inl z)); exact Or.inr (Or.inr (Or.inr z))) with q | q | q | q
        · exact e (Or.inl q)
        · exact e (Or.inr (Or.inl q))
        · exact e (Or.inr (Or.inr q))
        · exact (okS_0 ok1).2 q)
      rw [tE_s, if_neg e]
      exact ⟨fun w => absurd (Or.inl w) e, fun w => absurd (Or.inr (Or.inl w)) e, fun w => absurd (Or.inr (Or.inr w)) e, fun _ => z⟩
theorem tE_le (ok : ∀ j, j ≤ len → okS (stT f j)) (hk : k ≤ len) : tE f k ≤ 999 := by
  obtain ⟨i1, i2, i3, i4⟩ := tE_b ok hk
  by_cases h1 : stT f k = 8
  · have := i1 h1; omega
  by_cases h2 : stT f k = 9
  · have := i2 h2; omega
  by_cases h3 : stT f k = 10
  · exact i3 h3
  · have := i4 (fun w => by rcases w with w | w | w; exact h1 w; exact h2 w; exact h3 w)
    omega
theorem st_0 (ok : ∀ j, j ≤ len → okS (stT f j)) (hk : k ≤ len) (h : stT f k = 0) : k = 0 := by
  cases k with
  | zero => rfl
  | succ k => exact absurd h (nx_more (ok k (by omega)) (f k)).1
theorem tN_v (ok : ∀ j, j ≤ len → okS (stT f j)) (hk : k < len) : tN f (k + 1) = decide (f 0 = 45) := by
  induction k with
  | zero =>
    rw [tN_s]
    by_cases e : stT f (0 + 1) = 1
    · rw [if_pos e]
    · rw [if_neg e]
      refine (decide_eq_false (fun w => e ?_)).symm
      rw [stT_s, w]
      exact (by decide : nx 0 45 = 1)
  | succ k ih =>
    rw [tN_s]
    by_cases e : stT f (k + 1 + 1) = 1
    · have := (nx_all (ok (k + 1) (by omega)) (f (k + 1))).2.2.2.2.2.2.2 e
      have := st_0 ok (by omega) this
      omega
    · rw [if_neg e]; exact ih (by omega)
theorem tX_b (ok : ∀ j, j ≤ len → okS (stT f j)) (hk : k ≤ len) (h : tX f k = true) : stT f k = 7 ∨ stT f k = 8 ∨ stT f k = 9 ∨ stT f k = 10 := by
  induction k with
  | zero => cases h
  | succ k ih =>
    by_cases e : stT f (k + 1) = 7
    · exact Or.inl e
    · rw [tX_s, if_neg e] at h
      obtain ⟨-, -, m3, -⟩ := nx_more (ok k (by omega)) (f k)
      rcases m3 (ih (by omega) h) with q | q | q | q
      · exact Or.inr (Or.inl q)
      · exact Or.inr (Or.inr (Or.inl q))
      · exact Or.inr (Or.inr (Or.inr q))
      · exact absurd q (okS_0 (ok (k + 1) hk)).2
theorem tX_7 (ok : ∀ j, j ≤ len → okS (stT f j)) (hk : k < len) (h : stT f (k + 1) = 7) : tX f k = false := by
  cases hx : tX f k with
  | false => rfl
  | true =>
    have h5 := (nx_more (ok k (by omega)) (f k)).2.1 h
    rcases tX_b ok (by omega) hx with q | q | q | q <;> rw [h5] at q <;> exact absurd q (by decide)
end TT
