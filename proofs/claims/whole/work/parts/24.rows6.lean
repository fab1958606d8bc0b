theorem m_shifts {mb : Nat} {M : MS} {σ : Sto} {r v N : Nat} {z : Int} (hr : r < 10) (hz : -2147483648 ≤ z ∧ z < 2147483648) (hv : Hv M r v) (hs : v = 0 ∨ nd v + z.toNat ≤ 240) (hN : 600 ≤ N) :
    ∃ M', f_X12_shifts N (ov mb M σ) mb (iI r) (iI z) = some ((), ov mb M' σ) ∧ Sf [r] M M' ∧ Hv M' r (v * 10 ^ z.toNat) := by
  obtain ⟨f1, f2⟩ := rI hr
  have h240 := hv.2.1
  unfold f_X12_shifts
  by_cases h0 : z ≤ 0
  · rw [if_pos (by rw [iI_lit 0, iI_le hz ⟨by decide, by decide⟩]; exact h0)]
    have e : z.toNat = 0 := by omega
    rw [e, Nat.pow_zero, Nat.mul_one]
    exact ⟨M, rfl, Sf.rf, hv⟩
  · rw [if_neg (fun q => by rw [iI_lit 0, iI_le hz ⟨by decide, by decide⟩] at q; omega)]
    simp only [oR_1, oA_1, Option.bind_some, f1, f2, if_true, hv.1]
    by_cases hv0 : v = 0
    · subst hv0
      rw [nd_0, if_pos (by decide), Nat.zero_mul]
      exact ⟨M, rfl, Sf.rf, hv⟩
    · have hp : nd v ≠ 0 := by rw [nd_s hv0]; omega
      have hs' := hs.resolve_left hv0
      rw [if_neg (iI_n0 (by omega) hp)]
      obtain ⟨s, hsz⟩ : ∃ s : Nat, z = s := ⟨z.toNat, by omega⟩
      subst hsz
      show ∃ M', b_X12_shifts_23 N _ mb (iI r) (iI s) (iI (nd v : Nat) - 1) = _ ∧ _
      rw [iI_lit 1, iI_sub]
      exact m_shifts1 hr hv0 rfl (by omega) (by omega) N M (nd v) (by omega) (by omega) (by omega) Sf.rf hv.1 hv.2.2 (fun k hk h2 => absurd hk (by omega)) N (by omega)
/-- digit k of a difference -/
def bor (x y k : Nat) : Nat := if x % 10 ^ k < y % 10 ^ k then 1 else 0
theorem mod_s (x k : Nat) : x % 10 ^ (k + 1) = x % 10 ^ k + 10 ^ k * (x / 10 ^ k % 10) := by
  rw [Nat.pow_succ, Nat.mod_mul]
theorem bor_01 (x y k : Nat) : bor x y k = 0 ∨ bor x y k = 1 := by
  unfold bor
  by_cases h : x % 10 ^ k < y % 10 ^ k
  · exact Or.inr (if_pos h)
  · exact Or.inl (if_neg h)
theorem bor_s {x y k : Nat} : bor x y (k + 1) = if x / 10 ^ k % 10 < y / 10 ^ k % 10 + bor x y k then 1 else 0 := by
  have hx := mod_s x k
  have hy := mod_s y k
  have lx : x % 10 ^ k < 10 ^ k := Nat.mod_lt _ (pow10_pos k)
  have ly : y % 10 ^ k < 10 ^ k := Nat.mod_lt _ (pow10_pos k)
  unfold bor
  rw [hx, hy]
  generalize x / 10 ^ k % 10 = a
  generalize y / 10 ^ k % 10 = b
  generalize x % 10 ^ k = u at *
  generalize y % 10 ^ k = w at *
  generalize 10 ^ k = P at *
  have m1 : a ≤ b → P * a ≤ P * b := fun h => Nat.mul_le_mul_left _ h
  have m2 : b < a → P * b + P ≤ P * a := fun h => by
    have := Nat.mul_le_mul_left P (show b + 1 ≤ a from h)
    rw [Nat.mul_add] at this
    omega
  have m3 : a < b → P * a + P ≤ P * b := fun h => by
    have := Nat.mul_le_mul_left P (show a + 1 ≤ b from h)
    rw [Nat.mul_add] at this
    omega
  have m4 : b ≤ a → P * b ≤ P * a := fun h => Nat.mul_le_mul_left _ h
  generalize P * a = A at *
  generalize P * b = B at *
  by_cases huw : u < w
  · rw [if_pos huw]
    by_cases hab : a ≤ b
    · rw [if_pos (by have := m1 hab; omega), if_pos (by omega)]
    · rw [if_neg (by have := m2 (by omega); omega), if_neg (by omega)]
  · rw [if_neg huw]
    by_cases hab : a < b
    · rw [if_pos (by have := m3 hab; omega), if_pos (by omega)]
    · rw [if_neg (by have := m4 (by omega); omega), if_neg (by omega)]
theorem sub_div {x y k : Nat} (h : y ≤ x) : x / 10 ^ k = (x - y) / 10 ^ k + y / 10 ^ k + bor x y k := by
  have hx := Nat.div_add_mod x (10 ^ k)
  have hy := Nat.div_add_mod y (10 ^ k)
  have hd := Nat.div_add_mod (x - y) (10 ^ k)
  have lx : x % 10 ^ k < 10 ^ k := Nat.mod_lt _ (pow10_pos k)
  have ly : y % 10 ^ k < 10 ^ k := Nat.mod_lt _ (pow10_pos k)
  have ld : (x - y) % 10 ^ k < 10 ^ k := Nat.mod_lt _ (pow10_pos k)
  unfold bor
  generalize x % 10 ^ k = u at *
  generalize y % 10 ^ k = w at *
  generalize (x - y) % 10 ^ k = t at *
  generalize x / 10 ^ k = X at *
  generalize y / 10 ^ k = Y at *
  generalize (x - y) / 10 ^ k = D at *
  generalize 10 ^ k = P at *
  have m : ∀ a b : Nat, a < b → P * a + P ≤ P * b := fun a b h => by
    have := Nat.mul_le_mul_left P (show a + 1 ≤ b from h)
    rw [Nat.mul_add] at this
    omega
  have e1 : P * (D + Y) = P * D + P * Y := Nat.mul_add _ _ _
  have e2 : P * (D + Y + 1) = P * D + P * Y + P := by rw [Nat.mul_add, Nat.mul_add]; omega
  by_cases huw : u < w
  · rw [if_pos huw]
    rcases Nat.lt_trichotomy X (D + Y + 1) with g | g | g
    · have := m _ _ g; omega
    · exact g
    · have := m _ _ g; omega
  · rw [if_neg huw]
    rcases Nat.lt_trichotomy X (D + Y) with g | g | g
    · have := m _ _ g; omega
    · exact g
    · have := m _ _ g; omega
