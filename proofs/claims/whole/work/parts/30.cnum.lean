/-! ===== the class's reckoning ===== -/
theorem iL_nat (n : Nat) : Int64.ofNat n = iL (n : Int) := (Int64.ofInt_eq_ofNat (n := n)).symm
theorem jL_sub {a b : Nat} (h : b ≤ a) : iL (a : Int) - iL (b : Int) = iL ((a - b : Nat) : Int) := by
  rw [iL_sub]
  exact congrArg iL (by omega)
theorem jI_sub {a b : Nat} (h : b ≤ a) : iI (a : Int) - iI (b : Int) = iI ((a - b : Nat) : Int) := by
  rw [iI_sub]
  exact congrArg iI (by omega)
theorem pw_v {k : Nat} (h : k ≤ 18) : pw (iI k) = some (iL ((10 ^ k : Nat) : Int)) := by
  unfold pw ptab
  rw [if_pos ((iI_inB ⟨by omega, by omega⟩).mpr ⟨by omega, by omega⟩), iI_cl ⟨by omega, by omega⟩, iL_nat]
  rfl
theorem pw18 {k : Nat} (h : k ≤ 18) : 10 ^ k ≤ 1000000000000000000 := Nat.pow_le_pow_right (n := 10) (by decide) h
theorem bI_0 {b : Bool} : bI b = 0 ↔ b = false := by cases b <;> decide
/-- what is left of a cut, by its unit -/
def rst (r y : Nat) : Nat := if r = 0 then 0 else if r + r = y then 2 else if y < r + r then 3 else 1
theorem rst_v (r y : Nat) : (r = 0 ∧ rst r y = 0) ∨ (r ≠ 0 ∧ ((r + r = y ∧ rst r y = 2) ∨ (y < r + r ∧ rst r y = 3) ∨ (r + r < y ∧ rst r y = 1))) := by
  unfold rst
  by_cases h : r = 0
  · rw [if_pos h]; exact Or.inl ⟨h, rfl⟩
  · rw [if_neg h]
    by_cases h2 : r + r = y
    · rw [if_pos h2]; exact Or.inr ⟨h, Or.inl ⟨h2, rfl⟩⟩
    · rw [if_neg h2]
      by_cases h3 : y < r + r
      · rw [if_pos h3]; exact Or.inr ⟨h, Or.inr (Or.inl ⟨h3, rfl⟩)⟩
      · rw [if_neg h3]; exact Or.inr ⟨h, Or.inr (Or.inr ⟨by omega, rfl⟩)⟩
theorem x_rest {r y : Nat} (h : r < y) (hy : y < 9223372036854775808) : f_X6_rest (iL r) (iL y) = some (iI (rst r y : Nat)) := by
  unfold f_X6_rest lt_ rst
  dsimp only
  rw [iL_lit 0, jL_sub (by omega)]
  by_cases h0 : r = 0
  · rw [if_pos (by rw [h0]), if_pos h0]; rfl
  rw [if_neg (fun q => by rw [jL_eq (by omega) (by omega)] at q; omega), if_neg h0]
  by_cases h1 : r + r = y
  · rw [if_pos (by rw [jL_eq (by omega) (by omega)]; omega), if_pos h1]; rfl
  rw [if_neg (fun q => by rw [jL_eq (by omega) (by omega)] at q; omega), if_neg h1]
  by_cases h2 : y < r + r
  · rw [if_pos (by rw [jL_le (by omega) (by omega)]; omega), if_pos h2]; rfl
  · rw [if_neg (fun q => by rw [jL_le (by omega) (by omega)] at q; omega), if_neg h2]; rfl
def okM (m : Int32) : Bool := decide (m = 99 ∨ m = 100 ∨ m = 101 ∨ m = 102 ∨ m = 104 ∨ m = 108 ∨ m = 110 ∨ m = 117)
theorem x_isMode (m : Int32) : f_X6_isMode m = some (bI (okM m)) := by
  unfold f_X6_isMode okM
  by_cases h1 : m = 99
  · subst h1; decide
  by_cases h2 : m = 100
  · subst h2; decide
  by_cases h3 : m = 101
  · subst h3; decide
  by_cases h4 : m = 102
  · subst h4; decide
  by_cases h5 : m = 104
  · subst h5; decide
  by_cases h6 : m = 108
  · subst h6; decide
  by_cases h7 : m = 110
  · subst h7; decide
  by_cases h8 : m = 117
  · subst h8; decide
  rw [if_neg h1, if_neg h2, if_neg h3, if_neg h4, if_neg h5, if_neg h6, if_neg h7, if_neg h8, decide_eq_false (by simp [h1, h2, h3, h4, h5, h6, h7, h8])]
  rfl
theorem m_isMode (m : Int32) : f_X12_isMode m = some (bI (okM m)) := x_isMode m
theorem x_goes {q r y : Nat} {neg : Bool} {m : Int32} (hm : okM m = true) (hq : q < 9223372036854775807) (h0 : r ≠ 0) : f_X6_goesAway (iL q) (iI (rst r y : Nat)) (bI neg) m = some (if m = 110 then .inl 3 else .inr (bI (rUp neg m q r y))) := by
  have hm := of_decide_eq_true hm
  have hv := rst_v r y
  have r3 : (iI (rst r y : Nat) = 3) ↔ y < r + r := by
    rw [iI_lit 3, jI_eq (by omega) (by omega)]; omega
  have r2 : (iI (rst r y : Nat) = 2) ↔ r + r = y := by
    rw [iI_lit 2, jI_eq (by omega) (by omega)]; omega
  have r1 : (iI (rst r y : Nat) < 2) ↔ r + r < y := by
    rw [iI_lit 2, jI_lt (by omega) (by omega)]; omega
  have par : (iL (q : Nat) - iL (q : Nat) / 2 * 2 = 1) ↔ q % 2 = 1 := by
    rw [iL_lit 2, jL_md (by omega) (by omega), iL_lit 1, jL_eq (by omega) (by omega)]
  unfold f_X6_goesAway rUp
  by_cases h110 : m = 110
  · subst h110; rfl
  rw [if_neg h110]
  by_cases h99 : m = 99
  · rw [if_pos h99, if_pos h99]
    cases neg <;> rfl
  rw [if_neg h99, if_neg h99]
  by_cases h100 : m = 100
  · subst h100; rfl
  rw [if_neg h100]
  by_cases h101 : m = 101
  · rw [if_pos h101, if_pos h101]
    by_cases h3 : y < r + r
    · rw [if_pos (r3.mpr h3), decide_eq_true (Or.inl h3)]; rfl
    · rw [if_neg (fun w => h3 (r3.mp w))]
      by_cases h2 : r + r = y
      · rw [if_pos (r2.mpr h2)]
        by_cases hp : q % 2 = 1
        · rw [if_pos (par.mpr hp), decide_eq_true (Or.inr ⟨h2, hp⟩)]; rfl
        · rw [if_neg (fun w => hp (par.mp w)), decide_eq_false (by omega)]; rfl
      · rw [if_neg (fun w => h2 (r2.mp w)), decide_eq_false (by omega)]; rfl
  rw [if_neg h101, if_neg h101]
  by_cases h102 : m = 102
  · rw [if_pos h102, if_pos h102]
    cases neg <;> rfl
  rw [if_neg h102, if_neg h102]
  by_cases h104 : m = 104
  · rw [if_pos h104, if_pos h104]
    by_cases h1 : r + r < y
    · rw [if_pos (r1.mpr h1), decide_eq_false (by omega)]; rfl
    · rw [if_neg (fun w => h1 (r1.mp w)), decide_eq_true (by omega)]; rfl
  rw [if_neg h104, if_neg h104]
  by_cases h108 : m = 108
  · rw [if_pos h108, if_pos h108]
    by_cases h3 : y < r + r
    · rw [if_pos (r3.mpr h3), decide_eq_true h3]; rfl
    · rw [if_neg (fun w => h3 (r3.mp w)), decide_eq_false h3]; rfl
  rw [if_neg h108, if_neg h108]
  have h117 : m = 117 := by
    rcases hm with h | h | h | h | h | h | h | h <;> first | exact h | exact absurd h (by assumption)
  subst h117
  rfl
/-- a quotient, rounded; 3 where it is refused -/
def rqR (neg : Bool) (m : Int32) (x y : Nat) : Nat ⊕ Int64 := if x % y ≠ 0 ∧ m = 110 then .inl 3 else .inr (iL (rq neg m x y : Nat))
theorem x_settled {x y : Nat} {neg : Bool} {m : Int32} (hm : okM m = true) (hq : x / y < 9223372036854775807) : f_X6_settled (iL (x / y : Nat)) (iI (rst (x % y) y : Nat)) (bI neg) m = some (rqR neg m x y) := by
  have hv := rst_v (x % y) y
  unfold f_X6_settled rqR rq
  by_cases h0 : x % y = 0
  · rw [if_pos (by rw [iI_lit 0, jI_eq (by omega) (by omega)]; omega), if_neg (fun w => w.1 h0), if_neg (fun w => w.1 h0)]
  · rw [if_neg (fun w => by rw [iI_lit 0, jI_eq (by omega) (by omega)] at w; omega), x_goes hm hq h0, Option.bind_some]
    by_cases h1 : m = 110
    · rw [if_pos h1, if_pos ⟨h0, h1⟩]; rfl
    · rw [if_neg h1, if_neg (fun w => h1 w.2)]
      dsimp only [bs]
      cases hu : rUp neg m (x / y) (x % y) y with
      | false =>
        rw [if_pos (by decide), if_neg (fun w => by cases w.2)]
      | true =>
        rw [if_neg (by decide), if_pos ⟨h0, rfl⟩, iL_lit 1, jL_add]
theorem x_partOf {a f d : Nat} {m : Int32} (hm : okM m = true) (hd : 0 < d) (ha : a < 9223372036854775808) (hd' : d < 9223372036854775808) (hf : f < 2147483648) (h1 : a % d * f < 9223372036854775808) (h2 : a * f / d < 9223372036854775807) : f_X6_partOf (iL a) (iI f) (iL d) m = some (rqR false m (a * f) d) := by
  have e0 : a * f = d * (a / d * f) + a % d * f := by
    rw [← Nat.mul_assoc, ← Nat.add_mul, Nat.div_add_mod]
  have e1 : a / d * f + a % d * f / d = a * f / d := by
    rw [e0, Nat.mul_add_div hd]
  have e2 : a % d * f % d = a * f % d := by
    rw [e0, Nat.mul_add_mod]
  have h3 : a % d * f / d ≤ a * f / d := by omega
  have nz : ¬ iL (d : Nat) = 0 := fun q => by rw [iL_lit 0, jL_eq (by omega) (by omega)] at q; omega
  unfold f_X6_partOf
  rw [if_pos (by rw [iL_lit 1, jL_le (by omega) (by omega)]; omega), if_neg nz]
  simp only [lt_, if_neg nz]
  rw [jL_md ha hd', jL_dv ha hd', iI_iL ⟨by omega, by omega⟩, jL_mul, jL_mul, jL_md h1 hd', jL_dv h1 hd', jL_add, e1, e2, x_rest (Nat.mod_lt _ hd) hd', Option.bind_some]
  have key := x_settled (x := a * f) (y := d) (neg := false) hm h2
  rw [show (0 : Int32) = bI false from rfl, key, Option.bind_some]
  cases rqR false m (a * f) d <;> rfl
theorem x_quotient {a d : Nat} {m : Int32} (hm : okM m = true) (hd : 0 < d) (ha : a < 9223372036854775807) (hd' : d < 9223372036854775808) : f_X6_quotient (iL a) (iL d) m = some (rqR false m a d) := by
  have h2 : a / d ≤ a := Nat.div_le_self _ _
  have h3 : a % d ≤ a := Nat.mod_le _ _
  unfold f_X6_quotient
  rw [iI_lit 1, x_partOf (f := 1) hm hd (by omega) hd' (by decide) (by omega) (by rw [Nat.mul_one]; omega), Option.bind_some, Nat.mul_one]
  cases rqR false m a d <;> rfl
/-- how many digits: 0 has one -/
def dgN (s : Nat) : Nat := if s = 0 then 1 else nd s
theorem dgN_pos (s : Nat) : 1 ≤ dgN s := by
  unfold dgN
  by_cases h : s = 0
  · rw [if_pos h]; omega
  · rw [if_neg h, nd_s h]; omega
theorem dgN_le {s n : Nat} (hn : 1 ≤ n) : dgN s ≤ n ↔ s < 10 ^ n := by
  unfold dgN
  by_cases h : s = 0
  · rw [if_pos h, h]
    exact ⟨fun _ => pow10_pos n, fun _ => hn⟩
  · rw [if_neg h]
    exact nd_le.symm
theorem x_digitsOf {s N : Nat} (hs : s < 9223372036854775808) (hN : 30 ≤ N) : f_X6_digitsOf N (iL s) = some (iI (dgN s : Nat)) := by
  have h19 : dgN s ≤ 19 := (dgN_le (by decide)).mpr (Nat.lt_of_lt_of_le hs (by decide))
  have h1 := dgN_pos s
  unfold f_X6_digitsOf b_X6_digitsOf_2
  refine lp_for (F := fun k (e : Int64 × Int32) => b_X6_digitsOf_2_body N k e.1 e.2) (n := dgN s - 1) (st := fun j => (iL (s : Nat), iI ((j + 1 : Nat) : Int))) ?_ ?_ N 0 (Nat.zero_le _) (by omega)
  · intro j hj K
    have hlt : ¬ dgN s ≤ j + 1 := by omega
    rw [dgN_le (by omega)] at hlt
    have := pw18 (k := j + 1) (by omega)
    dsimp only
    unfold b_X6_digitsOf_2_body
    rw [if_neg (fun q => by rw [iI_lit 18, jI_lt (by omega) (by omega)] at q; omega), pw_v (by omega), Option.bind_some, if_pos (by rw [jL_le (by omega) (by omega)]; omega)]
    simp only [lt_]
    rw [jI_s]
  · intro K
    dsimp only
    rw [show dgN s - 1 + 1 = dgN s by omega]
    unfold b_X6_digitsOf_2_body
    by_cases h : dgN s = 19
    · rw [h]; rfl
    · have hlt : dgN s ≤ dgN s := Nat.le_refl _
      rw [dgN_le (by omega)] at hlt
      have := pw18 (k := dgN s) (by omega)
      rw [if_neg (fun q => by rw [iI_lit 18, jI_lt (by omega) (by omega)] at q; omega), pw_v (by omega), Option.bind_some, if_neg (fun q => by rw [jL_le (by omega) (by omega)] at q; omega)]
/-- with zeros behind it; 3 where it passes the limit -/
def raR (v k : Int) (lim : Nat) : Nat ⊕ Int64 := if v = 0 then .inr 0 else if k < 0 ∨ 18 < k ∨ lim < v.natAbs * 10 ^ k.toNat then .inl 3 else .inr (iL (v * ((10 ^ k.toNat : Nat) : Int)))
theorem x_abs {v : Int} (hv : -9223372036854775808 < v ∧ v < 9223372036854775808) : (if 0 < iL v then iL v else -iL v) = iL (v.natAbs : Nat) := by
  by_cases h : 0 < v
  · rw [if_pos (by rw [iL_lit 0, iL_lt ⟨by decide, by decide⟩ ⟨by omega, by omega⟩]; exact h)]
    exact congrArg iL (by omega)
  · rw [if_neg (fun q => h (by rw [iL_lit 0, iL_lt ⟨by decide, by decide⟩ ⟨by omega, by omega⟩] at q; exact q)), iL_neg]
    exact congrArg iL (by omega)
theorem x_raised {v k : Int} {lim : Nat} (hv : -9223372036854775808 < v ∧ v < 9223372036854775808) (hk : -2147483648 ≤ k ∧ k < 2147483648) (hl : lim < 9223372036854775808) : f_X6_raised (iL v) (iI k) (iL lim) = some (raR v k lim) := by
  unfold f_X6_raised raR
  by_cases h0 : v = 0
  · rw [if_pos (by rw [h0]; rfl), if_pos h0]
  rw [if_neg (fun q => h0 (by rw [iL_lit 0, iL_eq ⟨by omega, by omega⟩ ⟨by decide, by decide⟩] at q; exact q)), if_neg h0]
  by_cases h1 : k < 0
  · rw [if_pos (by rw [iI_lit 0, iI_lt hk ⟨by decide, by decide⟩]; exact h1), if_pos (Or.inl h1)]
  rw [if_neg (fun q => h1 (by rw [iI_lit 0, iI_lt hk ⟨by decide, by decide⟩] at q; exact q))]
  by_cases h2 : 18 < k
  · rw [if_neg (fun q => by rw [iI_lit 18, iI_le hk ⟨by decide, by decide⟩] at q; omega), if_pos (Or.inr (Or.inl h2))]
  obtain ⟨n, rfl⟩ : ∃ n : Nat, k = n := ⟨k.toNat, by omega⟩
  have p1 := pw18 (k := n) (by omega)
  have p2 := pow10_pos n
  rw [if_pos (by rw [iI_lit 18, iI_le hk ⟨by decide, by decide⟩]; omega), pw_v (by omega), Option.bind_some, if_neg (fun q => by rw [iL_lit 0, jL_eq (by omega) (by omega)] at q; omega), x_abs hv, jL_dv (by omega) (by omega), Int.toNat_natCast]
  have hd : lim / 10 ^ n ≤ lim := Nat.div_le_self _ _
  have iff : v.natAbs ≤ lim / 10 ^ n ↔ v.natAbs * 10 ^ n ≤ lim := Nat.le_div_iff_mul_le p2
  by_cases h3 : lim < v.natAbs * 10 ^ n
  · rw [if_neg (fun q => by rw [jL_le (by omega) (by omega)] at q; omega), if_pos (Or.inr (Or.inr h3))]
  · rw [if_pos (by rw [jL_le (by omega) (by omega)]; omega), if_neg (by omega), iL_mul]
def inR (u s : Int) : Bool := decide (-999999999999999999 ≤ u ∧ u ≤ 999999999999999999 ∧ -18 ≤ s ∧ s ≤ 36)
theorem x_isInRange {u s : Int} (hu : -9223372036854775808 ≤ u ∧ u < 9223372036854775808) (hs : -2147483648 ≤ s ∧ s < 2147483648) : f_X10_isInRange (iL u) (iI s) = some (bI (inR u s)) := by
  unfold f_X10_isInRange inR
  rw [iL_lit 999999999999999999, iL_neg, iI_lit 18, iI_neg, iI_lit 36]
  by_cases h1 : u < -999999999999999999
  · rw [if_pos (by rw [iL_lt hu ⟨by decide, by decide⟩]; exact h1), decide_eq_false (by omega)]; rfl
  rw [if_neg (fun q => h1 (by rw [iL_lt hu ⟨by decide, by decide⟩] at q; exact q))]
  by_cases h2 : 999999999999999999 < u
  · rw [if_pos (by rw [iL_lt ⟨by decide, by decide⟩ hu]; exact h2), decide_eq_false (by omega)]; rfl
  rw [if_neg (fun q => h2 (by rw [iL_lt ⟨by decide, by decide⟩ hu] at q; exact q))]
  by_cases h3 : s < -18
  · rw [if_pos (by rw [iI_lt hs ⟨by decide, by decide⟩]; exact h3), decide_eq_false (by omega)]; rfl
  rw [if_neg (fun q => h3 (by rw [iI_lt hs ⟨by decide, by decide⟩] at q; exact q))]
  by_cases h4 : 36 < s
  · rw [if_pos (by rw [iI_lt ⟨by decide, by decide⟩ hs]; exact h4), decide_eq_false (by omega)]; rfl
  rw [if_neg (fun q => h4 (by rw [iI_lt ⟨by decide, by decide⟩ hs] at q; exact q)), decide_eq_true (by omega)]
  rfl
