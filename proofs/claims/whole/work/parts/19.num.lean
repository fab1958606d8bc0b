/-! ===== the machine's ints and longs as whole numbers ===== -/
def iI (z : Int) : Int32 := Int32.ofInt z
def iL (z : Int) : Int64 := Int64.ofInt z
theorem iI_of (v : Int32) : ∃ z : Int, -2147483648 ≤ z ∧ z < 2147483648 ∧ v = iI z := ⟨v.toInt, v.le_toInt, v.toInt_lt, (Int32.ofInt_toInt v).symm⟩
theorem iL_of (v : Int64) : ∃ z : Int, -9223372036854775808 ≤ z ∧ z < 9223372036854775808 ∧ v = iL z := ⟨v.toInt, v.le_toInt, v.toInt_lt, (Int64.ofInt_toInt v).symm⟩
theorem iI_lit (n : Nat) : (OfNat.ofNat n : Int32) = iI (n : Int) := (Int32.ofInt_eq_ofNat (n := n)).symm
theorem iL_lit (n : Nat) : (OfNat.ofNat n : Int64) = iL (n : Int) := (Int64.ofInt_eq_ofNat (n := n)).symm
theorem iI_add (a b : Int) : iI a + iI b = iI (a + b) := (Int32.ofInt_add a b).symm
theorem iI_sub (a b : Int) : iI a - iI b = iI (a - b) := (Int32.ofInt_sub a b).symm
theorem iI_mul (a b : Int) : iI a * iI b = iI (a * b) := (Int32.ofInt_mul a b).symm
theorem iI_neg (a : Int) : -iI a = iI (-a) := (Int32.ofInt_neg a).symm
theorem iL_add (a b : Int) : iL a + iL b = iL (a + b) := (Int64.ofInt_add a b).symm
theorem iL_sub (a b : Int) : iL a - iL b = iL (a - b) := (Int64.ofInt_sub a b).symm
theorem iL_mul (a b : Int) : iL a * iL b = iL (a * b) := (Int64.ofInt_mul a b).symm
theorem iL_neg (a : Int) : -iL a = iL (-a) := (Int64.ofInt_neg a).symm
theorem iI_int {a : Int} (h : -2147483648 ≤ a ∧ a < 2147483648) : (iI a).toInt = a := Int32.toInt_ofInt_of_le h.1 h.2
theorem iL_int {a : Int} (h : -9223372036854775808 ≤ a ∧ a < 9223372036854775808) : (iL a).toInt = a := Int64.toInt_ofInt_of_le h.1 h.2
theorem iI_lt {a b : Int} (ha : -2147483648 ≤ a ∧ a < 2147483648) (hb : -2147483648 ≤ b ∧ b < 2147483648) : iI a < iI b ↔ a < b := by
  rw [Int32.lt_iff_toInt_lt, iI_int ha, iI_int hb]
theorem iI_le {a b : Int} (ha : -2147483648 ≤ a ∧ a < 2147483648) (hb : -2147483648 ≤ b ∧ b < 2147483648) : iI a ≤ iI b ↔ a ≤ b := by
  rw [Int32.le_iff_toInt_le, iI_int ha, iI_int hb]
theorem iI_eq {a b : Int} (ha : -2147483648 ≤ a ∧ a < 2147483648) (hb : -2147483648 ≤ b ∧ b < 2147483648) : iI a = iI b ↔ a = b := by
  rw [← Int32.toInt_inj, iI_int ha, iI_int hb]
theorem iL_lt {a b : Int} (ha : -9223372036854775808 ≤ a ∧ a < 9223372036854775808) (hb : -9223372036854775808 ≤ b ∧ b < 9223372036854775808) : iL a < iL b ↔ a < b := by
  rw [Int64.lt_iff_toInt_lt, iL_int ha, iL_int hb]
theorem iL_le {a b : Int} (ha : -9223372036854775808 ≤ a ∧ a < 9223372036854775808) (hb : -9223372036854775808 ≤ b ∧ b < 9223372036854775808) : iL a ≤ iL b ↔ a ≤ b := by
  rw [Int64.le_iff_toInt_le, iL_int ha, iL_int hb]
theorem iL_eq {a b : Int} (ha : -9223372036854775808 ≤ a ∧ a < 9223372036854775808) (hb : -9223372036854775808 ≤ b ∧ b < 9223372036854775808) : iL a = iL b ↔ a = b := by
  rw [← Int64.toInt_inj, iL_int ha, iL_int hb]
theorem iI_div {a b : Int} (ha : -2147483648 < a ∧ a < 2147483648) (hb : -2147483648 ≤ b ∧ b < 2147483648) : iI a / iI b = iI (a.tdiv b) := by
  refine Int32.toInt_inj.mp ?_
  have h1 : (iI a).toInt = a := iI_int ⟨by omega, ha.2⟩
  have h2 : (iI b).toInt = b := iI_int hb
  have h3 : a.tdiv b ≤ a.natAbs ∧ -(a.natAbs : Int) ≤ a.tdiv b := by
    have := Int.natAbs_tdiv_le_natAbs a b
    omega
  rw [Int32.toInt_div_of_ne_left _ _ (fun e => ?_), h1, h2, iI_int ⟨by omega, by omega⟩]
  have h4 : (iI a).toInt = Int32.minValue.toInt := by rw [e]
  rw [h1] at h4
  have h5 : Int32.minValue.toInt = -2147483648 := by decide
  omega
theorem iL_div {a b : Int} (ha : -9223372036854775808 < a ∧ a < 9223372036854775808) (hb : -9223372036854775808 ≤ b ∧ b < 9223372036854775808) : iL a / iL b = iL (a.tdiv b) := by
  refine Int64.toInt_inj.mp ?_
  have h1 : (iL a).toInt = a := iL_int ⟨by omega, ha.2⟩
  have h2 : (iL b).toInt = b := iL_int hb
  have h3 : a.tdiv b ≤ a.natAbs ∧ -(a.natAbs : Int) ≤ a.tdiv b := by
    have := Int.natAbs_tdiv_le_natAbs a b
    omega
  rw [Int64.toInt_div_of_ne_left _ _ (fun e => ?_), h1, h2, iL_int ⟨by omega, by omega⟩]
  have h4 : (iL a).toInt = Int64.minValue.toInt := by rw [e]
  rw [h1] at h4
  have h5 : Int64.minValue.toInt = -9223372036854775808 := by decide
  omega
theorem iI_dv {a b : Int} (ha : 0 ≤ a ∧ a < 2147483648) (hb : 0 ≤ b ∧ b < 2147483648) : iI a / iI b = iI (a / b) := by
  rw [iI_div ⟨by omega, ha.2⟩ ⟨by omega, hb.2⟩, Int.tdiv_eq_ediv_of_nonneg ha.1]
theorem iL_dv {a b : Int} (ha : 0 ≤ a ∧ a < 9223372036854775808) (hb : 0 ≤ b ∧ b < 9223372036854775808) : iL a / iL b = iL (a / b) := by
  rw [iL_div ⟨by omega, ha.2⟩ ⟨by omega, hb.2⟩, Int.tdiv_eq_ediv_of_nonneg ha.1]
theorem iI_md {a b : Int} (ha : 0 ≤ a ∧ a < 2147483648) (hb : 0 ≤ b ∧ b < 2147483648) : iI a - iI a / iI b * iI b = iI (a % b) := by
  rw [iI_dv ha hb, iI_mul, iI_sub]
  congr 1
  rw [Int.emod_def, Int.mul_comm]
theorem iL_md {a b : Int} (ha : 0 ≤ a ∧ a < 9223372036854775808) (hb : 0 ≤ b ∧ b < 9223372036854775808) : iL a - iL a / iL b * iL b = iL (a % b) := by
  rw [iL_dv ha hb, iL_mul, iL_sub]
  congr 1
  rw [Int.emod_def, Int.mul_comm]
theorem iI_iL {a : Int} (h : -2147483648 ≤ a ∧ a < 2147483648) : (iI a).toInt64 = iL a := by
  refine Int64.toInt_inj.mp ?_
  rw [Int32.toInt_toInt64, iI_int h, iL_int ⟨by omega, by omega⟩]
theorem iL_iI (a : Int) : (iL a).toInt32 = iI a := Int64.toInt32_ofInt
theorem iI_cl {a : Int} (h : -2147483648 ≤ a ∧ a < 2147483648) : (iI a).toNatClampNeg = a.toNat := by
  show (iI a).toInt.toNat = a.toNat
  rw [iI_int h]
theorem iI_inB {a : Int} {n : Nat} (h : -2147483648 ≤ a ∧ a < 2147483648) : inB (iI a) n = true ↔ 0 ≤ a ∧ a < n := by
  simp only [inB, Bool.and_eq_true, decide_eq_true_eq, iI_int h]
/-! a loop: with what holds at its head, and what falls -/
theorem lp_run {α β : Type} {F : (α → Option β) → α → Option β} {Inv : α → Prop} {Post : β → Prop} (ms : α → Nat) (step : ∀ (k : α → Option β) (a : α), Inv a → (∀ a', Inv a' → ms a' < ms a → ∃ r, k a' = some r ∧ Post r) → ∃ r, F k a = some r ∧ Post r) : ∀ (N : Nat) (a : α), ms a < N → Inv a → ∃ r, lp F N a = some r ∧ Post r := by
  intro N
  induction N with
  | zero => intro a h; omega
  | succ N ih =>
    intro a h hI
    exact step _ a hI (fun a' h1 h2 => ih a' (by omega) h1)
