section XS
variable {σ : Sto} {a h l : Nat}
theorem mod1 (x : Nat) : x % 1 = 0 := Nat.mod_one x
theorem spX_up {x : Nat} {P : Int} {m : Int32} (h0 : 0 ≤ P) : spX x P m = if 999999999999999999 < x * 10 ^ P.toNat then .inl 3 else .inr (iL ((x * 10 ^ P.toNat : Nat) : Int)) := by
  unfold spX
  rw [show (-P).toNat = 0 by omega, Nat.pow_zero, rq_ex (mod1 _), Nat.div_one]
  by_cases hb : 999999999999999999 < x * 10 ^ P.toNat
  · rw [if_pos hb, if_pos (Or.inr hb)]
  · rw [if_neg hb, if_neg (fun w => w.elim (fun v => v.1 (mod1 _)) hb)]
theorem x_shift_up (p : Pr σ a h l) {P : Int} {m : Int32} (hP : 0 ≤ P ∧ P ≤ 100) (hl : l < 1000000000000000000) (hh : h < 1000000000000000000) : f_X5_shifted σ a (iI P) m = some (spX (h * 1000000000000000000 + l) P m) := by
  unfold f_X5_shifted
  rw [spX_up hP.1, if_pos (by rw [iI_lit 0, iI_le ⟨by decide, by decide⟩ ⟨by omega, by omega⟩]; exact hP.1), p.hi, p.lo]
  simp only [Option.bind_some]
  have hp := pow10_pos P.toNat
  by_cases hz : h = 0
  · subst hz
    rw [if_pos (show iL ((0 : Nat) : Int) = 0 from rfl)]
    have e : (999999999999999999 : Int64) = iL ((999999999999999999 : Nat) : Int) := iL_lit _
    rw [e, x_raised ⟨by omega, by omega⟩ ⟨by omega, by omega⟩ (by decide), Option.bind_some, Nat.zero_mul, Nat.zero_add]
    unfold raR
    by_cases l0 : l = 0
    · subst l0
      rw [if_pos (by omega), Nat.zero_mul, if_neg (by omega)]
      rfl
    rw [if_neg (by omega), Int.natAbs_natCast]
    by_cases h1 : P < 0 ∨ 18 < P ∨ 999999999999999999 < l * 10 ^ P.toNat
    · have hb : 999999999999999999 < l * 10 ^ P.toNat := by
        rcases h1 with h1 | h1 | h1
        · omega
        · have h2 : 10 ^ 19 ≤ 10 ^ P.toNat := Nat.pow_le_pow_right (by decide) (by omega)
          have h3 : 1 * 10 ^ P.toNat ≤ l * 10 ^ P.toNat := Nat.mul_le_mul_right _ (by omega)
          omega
        · exact h1
      rw [if_pos h1, if_pos hb]
      rfl
    · rw [if_neg h1, if_neg (by omega), Int.natCast_mul]
      rfl
  · have hx : (h * 1000000000000000000 + l) * 1 ≤ (h * 1000000000000000000 + l) * 10 ^ P.toNat := Nat.mul_le_mul_left _ hp
    generalize (h * 1000000000000000000 + l) * 10 ^ P.toNat = X at *
    have hb : 999999999999999999 < X := by omega
    rw [if_neg (fun w => hz (by rw [iL_lit 0, jL_eq (by omega) (by omega)] at w; exact w)), if_pos hb]
theorem x_shift_dn (p : Pr σ a h l) {k : Nat} {m : Int32} (hP : 1 ≤ k ∧ k ≤ 100) (hl : l < 1000000000000000000) (hh : h < 1000000000000000000) (hm : okM m = true) {x : Nat} (hx : x = h * 1000000000000000000 + l) : f_X5_shortened σ a (iI (k : Nat)) m = some (if x % 10 ^ k ≠ 0 ∧ m = 110 ∨ 999999999999999999 < rq false m x (10 ^ k) then .inl 3 else .inr (iL (rq false m x (10 ^ k) : Nat))) := by
  have hq := rq_le false m x (10 ^ k)
  unfold f_X5_shortened
  rw [p.io, Option.bind_some]
  have hc := x_cut p (k := k) hP.1 hP.2 hl hh
  rw [← hx] at hc
  rcases hc with ⟨c1, c2⟩ | ⟨c1, c2, c3⟩
  · rw [c1, Option.bind_some, if_pos (Or.inr (by omega))]
    rfl
  · rw [c1, Option.bind_some]
    dsimp only [bs]
    rw [c2, Option.bind_some, show (0 : Int32) = bI false from rfl, x_settled hm (by omega), Option.bind_some]
    unfold rqR
    by_cases h9 : x % 10 ^ k ≠ 0 ∧ m = 110
    · rw [if_pos h9, if_pos (Or.inl h9)]
    · rw [if_neg h9]
      dsimp only [bs]
      rw [iL_lit 999999999999999999]
      by_cases hb : 999999999999999999 < rq false m x (10 ^ k)
      · rw [if_neg (fun w => by rw [jL_le (by omega) (by omega)] at w; omega), if_pos (Or.inr hb)]
      · rw [if_pos (by rw [jL_le (by omega) (by omega)]; omega), if_neg (fun w => w.elim h9 hb)]
theorem x_shifted (p : Pr σ a h l) {P : Int} {m : Int32} (hP : -100 ≤ P ∧ P ≤ 100) (hl : l < 1000000000000000000) (hh : h < 1000000000000000000) (hm : okM m = true) : f_X5_shifted σ a (iI P) m = some (spX (h * 1000000000000000000 + l) P m) := by
  by_cases h0 : 0 ≤ P
  · exact x_shift_up p ⟨h0, hP.2⟩ hl hh
  · obtain ⟨k, hk⟩ : ∃ k : Nat, -P = k := ⟨(-P).toNat, by omega⟩
    have key := x_shift_dn p (k := k) (m := m) (by omega) hl hh hm rfl
    unfold f_X5_shifted spX
    rw [if_neg (fun w => h0 (by rw [iI_lit 0, iI_le ⟨by decide, by decide⟩ ⟨by omega, by omega⟩] at w; exact w)), p.io, Option.bind_some, iI_neg, hk, Int.toNat_natCast, show P.toNat = 0 by omega, Nat.pow_zero, Nat.mul_one, key, Option.bind_some]
    by_cases hc : (h * 1000000000000000000 + l) % 10 ^ k ≠ 0 ∧ m = 110 ∨ 999999999999999999 < rq false m (h * 1000000000000000000 + l) (10 ^ k)
    · rw [if_pos hc]
      dsimp only [bs]
    · rw [if_neg hc]
      dsimp only [bs]
end XS
