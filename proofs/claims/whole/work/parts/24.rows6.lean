theorem m_shifts {mb : Nat} {M : MS} {σ : Sto} {r v N : Nat} {z : Int} (hr : r < 10) (hz : -2147483648 ≤ z ∧ z < 2147483648) (hv : Hv M r v) (hs : v = 0 ∨ nd v + z.toNat ≤ 240) (hN : 600 ≤ N) :
    ∃ M', f_X12_shifts N (ov mb M σ) mb (iI r) (iI z) = some ((), ov mb M' σ) ∧ Sf [r] M M' ∧ Hv M' r (v * 10 ^ z.toNat) := by
  obtain ⟨f1, f2⟩ := rI hr
  have h240 := hv.2.1
  unfold f_X12_shifts
  by_cases h0 : z ≤ 0
  · rw [if_pos (by rw [iI_lit 0, iI_le hz ⟨by decide, by decide⟩]; exact h0)]
    have e : z.toNat = 0 := by omega
    rw [e, Nat.pow_zero, Nat.mul_one]
    exact ⟨M, rfl, Sf.rf, hv⟩
  · rw [if_neg (fun q => by rw [iI_lit 0, iI_le hz ⟨by decide, by decide⟩] at q; omega)]
    simp only [oR_1, oA_1, Option.bind_some, f1, f2, if_true, hv.1]
    by_cases hv0 : v = 0
    · subst hv0
      rw [nd_0, if_pos (by decide), Nat.zero_mul]
      exact ⟨M, rfl, Sf.rf, hv⟩
    · have hp : nd v ≠ 0 := by rw [nd_s hv0]; omega
      have hs' := hs.resolve_left hv0
      rw [if_neg (iI_n0 (by omega) hp)]
      obtain ⟨s, hsz⟩ : ∃ s : Nat, z = s := ⟨z.toNat, by omega⟩
      subst hsz
      show ∃ M', b_X12_shifts_23 N _ mb (iI r) (iI s) (iI (nd v : Nat) - 1) = _ ∧ _
      rw [iI_lit 1, iI_sub]
      exact m_shifts1 hr hv0 rfl (by omega) (by omega) N M (nd v) (by omega) (by omega) (by omega) Sf.rf hv.1 hv.2.2 (fun k hk h2 => absurd hk (by omega)) N (by omega)
/-- digit k of a difference -/
def bor (x y k : Nat) : Nat := if x % 10 ^ k < y % 10 ^ k then 1 else 0
theorem mod_s (x k : Nat) : x % 10 ^ (k + 1) = x % 10 ^ k + 10 ^ k * (x / 10 ^ k % 10) := by
  rw [Nat.pow_succ, Nat.mod_mul]
