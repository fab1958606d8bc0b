/-! ===== values of the class ===== -/
def Val (σ : Sto) (p : Nat) (u s : Int) : Prop := ∃ V, σ p = some (.inl (9, V)) ∧ V 0 = .long (iL u) ∧ V 1 = .int (iI s)
def RgV (u s : Int) : Prop := -999999999999999999 ≤ u ∧ u ≤ 999999999999999999 ∧ -18 ≤ s ∧ s ≤ 36
def mkV (u s : Int) : Ent := .inl (9, va_up (va_up dvX10 0 (.long (iL u))) 1 (.int (iI s)))
def nV (σ : Sto) (sz : Nat) (u s : Int) : Sto := va_up σ sz (some (mkV u s))
theorem Val.nV {σ : Sto} {sz : Nat} {u s : Int} : Val (nV σ sz u s) sz u s := by
  refine ⟨va_up (va_up dvX10 0 (.long (iL u))) 1 (.int (iI s)), va_up_self _ _ _, ?_, va_up_self _ _ _⟩
  rw [va_up_ne _ _ (by decide), va_up_self]
theorem va_up_2 {α : Type} (f : Nat → α) (k : Nat) (a b : α) : va_up (va_up f k a) k b = va_up f k b := by
  funext q
  by_cases h : q = k
  · subst h; rw [va_up_self, va_up_self]
  · rw [va_up_ne _ _ h, va_up_ne _ _ h, va_up_ne _ _ h]
theorem x_newV {σ : Sto} {sz : Nat} {u s : Int} : f_X10_init (nO σ sz 9 dvX10) sz (iL u) (iI s) = some ((), nV σ sz u s) := by
  unfold f_X10_init nO nV mkV pF
  rw [va_up_self]
  dsimp only
  rw [if_pos rfl, Option.bind_some, va_up_2, va_up_self]
  dsimp only
  rw [if_pos rfl, Option.bind_some, va_up_2]
theorem Val.io {σ : Sto} {p : Nat} {u s : Int} (h : Val σ p u s) : isO σ p 9 = some () := by
  obtain ⟨V, h1, h2, h3⟩ := h
  unfold isO
  rw [h1]
  rfl
theorem Val.u {σ : Sto} {p : Nat} {u s : Int} (h : Val σ p u s) : gL σ p 9 0 = some (iL u) := by
  obtain ⟨V, h1, h2, h3⟩ := h
  unfold gL oF
  rw [h1]
  simp [h2]
theorem Val.s {σ : Sto} {p : Nat} {u s : Int} (h : Val σ p u s) : gI σ p 9 1 = some (iI s) := by
  obtain ⟨V, h1, h2, h3⟩ := h
  unfold gI oF
  rw [h1]
  simp [h3]
theorem Val.of {σ σ' : Sto} {p : Nat} {u s : Int} (h : Val σ p u s) (he : σ' p = σ p) : Val σ' p u s := by
  obtain ⟨V, h1, h2, h3⟩ := h
  exact ⟨V, he.trans h1, h2, h3⟩
def vQ : Option (Int × Int) → Sto → Nat → Option ((Nat ⊕ Nat) × Sto × Nat)
  | none, σ, sz => some (.inl 3, σ, sz)
  | some q, σ, sz => some (.inr sz, nV σ sz q.1 q.2, sz + 1)
theorem vQ_id {r : Option (Int × Int)} {σ : Sto} {sz : Nat} : (b3 (vQ r σ sz) fun u τ y => bs u (fun j => some (.inl j, τ, y)) fun p => some (.inr p, τ, y)) = vQ r σ sz := by
  cases r <;> rfl
def chk (u s : Int) : Option (Int × Int) := if inR u s = true then some (u, s) else none
theorem x_checked {σ : Sto} {sz : Nat} {u s : Int} (hu : -9223372036854775808 ≤ u ∧ u < 9223372036854775808) (hs : -2147483648 ≤ s ∧ s < 2147483648) : f_X10_checked σ sz (iL u) (iI s) = vQ (chk u s) σ sz := by
  unfold f_X10_checked chk
  rw [x_isInRange hu hs, Option.bind_some]
  cases inR u s with
  | false => rfl
  | true =>
    rw [if_neg (by decide), if_pos rfl]
    dsimp only [lt_]
    rw [x_newV]
    rfl
def sgn (neg : Bool) (n : Nat) : Int := if neg = true then -(n : Int) else n
theorem x_signed {σ : Sto} {sz : Nat} {neg : Bool} {n : Nat} {s : Int} (hn : n < 9223372036854775808) (hs : -2147483648 ≤ s ∧ s < 2147483648) : f_X10_signed σ sz (bI neg) (iL n) (iI s) = vQ (chk (sgn neg n) s) σ sz := by
  unfold f_X10_signed b_X10_signed_10
  cases neg with
  | false =>
    rw [if_pos (by decide), x_checked ⟨by omega, by omega⟩ hs, vQ_id]
    rfl
  | true =>
    rw [if_neg (by decide), iL_neg, x_checked ⟨by omega, by omega⟩ hs, vQ_id]
    rfl
def sg (u : Int) : Int := if u = 0 then 0 else if u < 0 then -1 else 1
theorem sg_v (u : Int) : (u = 0 ∧ sg u = 0) ∨ (u < 0 ∧ sg u = -1) ∨ (0 < u ∧ sg u = 1) := by
  unfold sg
  by_cases h : u = 0
  · rw [if_pos h]; exact Or.inl ⟨h, rfl⟩
  · rw [if_neg h]
    by_cases h2 : u < 0
    · rw [if_pos h2]; exact Or.inr (Or.inl ⟨h2, rfl⟩)
    · rw [if_neg h2]; exact Or.inr (Or.inr ⟨by omega, rfl⟩)
section XV
variable {σ : Sto} {sz p q N : Nat} {u s u' s' : Int}
theorem x_sign (h : Val σ p u s) (hr : RgV u s) : f_X10_sign σ p = some (iI (sg u)) := by
  obtain ⟨r1, r2, r3, r4⟩ := hr
  unfold f_X10_sign sg
  rw [h.u, Option.bind_some, Option.bind_some]
  by_cases h0 : u = 0
  · rw [if_pos (by rw [h0]; rfl), if_pos h0]; rfl
  rw [if_neg (fun w => h0 (by rw [iL_lit 0, iL_eq ⟨by omega, by omega⟩ ⟨by decide, by decide⟩] at w; exact w)), if_neg h0]
  by_cases h1 : u < 0
  · rw [if_neg (fun w => by rw [iL_lit 0, iL_le ⟨by decide, by decide⟩ ⟨by omega, by omega⟩] at w; omega), if_pos h1]; rfl
  · rw [if_pos (by rw [iL_lit 0, iL_le ⟨by decide, by decide⟩ ⟨by omega, by omega⟩]; omega), if_neg h1]; rfl
theorem x_size (h : Val σ p u s) (hr : RgV u s) : f_X10_size σ p = some (iL (u.natAbs : Nat)) := by
  obtain ⟨r1, r2, r3, r4⟩ := hr
  unfold f_X10_size
  rw [h.u, Option.bind_some, x_abs ⟨by omega, by omega⟩]
theorem x_digits (h : Val σ p u s) (hr : RgV u s) (hN : 30 ≤ N) : f_X10_digits N σ p = some (iI (dgN u.natAbs : Nat)) := by
  have ⟨r1, r2, r3, r4⟩ := hr
  unfold f_X10_digits
  rw [h.io, Option.bind_some, x_size h hr, Option.bind_some, x_digitsOf (by omega) hN, Option.bind_some]
theorem x_aligned {c : Int} (h : Val σ p u s) (hr : RgV u s) (hc : -1000 ≤ c ∧ c ≤ 1000) : f_X10_aligned σ p (iI c) = some (raR u (c - s) 2000000000000000000) := by
  have ⟨r1, r2, r3, r4⟩ := hr
  unfold f_X10_aligned
  rw [h.u, h.s, Option.bind_some, Option.bind_some, iI_sub]
  have e : (2000000000000000000 : Int64) = iL ((2000000000000000000 : Nat) : Int) := iL_lit _
  rw [e, x_raised ⟨by omega, by omega⟩ ⟨by omega, by omega⟩ (by decide), Option.bind_some]
  cases raR u (c - s) 2000000000000000000 <;> rfl
/-- so many units of another scale -/
def al (u s S : Int) : Int := u * ((10 ^ (S - s).toNat : Nat) : Int)
def mxI (a b : Int) : Int := if a < b then b else a
theorem mxI_v (a b : Int) : a ≤ mxI a b ∧ b ≤ mxI a b ∧ (mxI a b = a ∨ mxI a b = b) := by
  unfold mxI
  by_cases h : a < b
  · rw [if_pos h]; omega
  · rw [if_neg h]; omega
theorem x_max {a b : Int} (ha : -2147483648 ≤ a ∧ a < 2147483648) (hb : -2147483648 ≤ b ∧ b < 2147483648) : (if iI a < iI b then iI b else iI a) = iI (mxI a b) := by
  unfold mxI
  by_cases h : a < b
  · rw [if_pos ((iI_lt ha hb).mpr h), if_pos h]
  · rw [if_neg (fun w => h ((iI_lt ha hb).mp w)), if_neg h]
theorem al_abs (u s S : Int) : (al u s S).natAbs = u.natAbs * 10 ^ (S - s).toNat := by
  unfold al
  rw [Int.natAbs_mul, Int.natAbs_natCast]
theorem al_0 (u s : Int) : al u s s = u := by
  unfold al
  rw [Int.sub_self]
  show u * ((1 : Nat) : Int) = u
  omega
theorem al_pos (u s S : Int) : (0 < u → 0 < al u s S) ∧ (u < 0 → al u s S < 0) ∧ (u = 0 → al u s S = 0) := by
  have hp : (0 : Int) < ((10 ^ (S - s).toNat : Nat) : Int) := Int.natCast_pos.mpr (pow10_pos _)
  unfold al
  refine ⟨fun h => Int.mul_pos h hp, fun h => Int.mul_neg_of_neg_of_pos h hp, fun h => by rw [h, Int.zero_mul]⟩
/-- aligned: either as it is, or refused and then too large -/
theorem raR_v {S : Int} (hr : RgV u s) (h : s ≤ S) (hS : S ≤ 36) : (raR u (S - s) 2000000000000000000 = .inl 3 ∧ 2000000000000000000 < (al u s S).natAbs ∧ s < S) ∨ (raR u (S - s) 2000000000000000000 = .inr (iL (al u s S)) ∧ (al u s S).natAbs ≤ 2000000000000000000) := by
  have ⟨r1, r2, r3, r4⟩ := hr
  have ha := al_abs u s S
  unfold raR
  by_cases h0 : u = 0
  · rw [if_pos h0]
    refine Or.inr ⟨?_, ?_⟩
    · rw [(al_pos u s S).2.2 h0]; rfl
    · rw [(al_pos u s S).2.2 h0]; decide
  rw [if_neg h0]
  by_cases h1 : 18 < S - s
  · rw [if_pos (Or.inr (Or.inl h1))]
    refine Or.inl ⟨rfl, ?_, by omega⟩
    rw [ha]
    have h2 : 10 ^ 19 ≤ 10 ^ (S - s).toNat := Nat.pow_le_pow_right (by decide) (by omega)
    have h3 : 1 * 10 ^ (S - s).toNat ≤ u.natAbs * 10 ^ (S - s).toNat := Nat.mul_le_mul_right _ (by omega)
    omega
  · by_cases h2 : 2000000000000000000 < u.natAbs * 10 ^ (S - s).toNat
    · rw [if_pos (Or.inr (Or.inr h2))]
      refine Or.inl ⟨rfl, by rw [ha]; exact h2, ?_⟩
      rcases Int.lt_or_le s S with h3 | h3
      · exact h3
      · have e : (S - s).toNat = 0 := by omega
        rw [e, Nat.pow_zero, Nat.mul_one] at h2
        omega
    · rw [if_neg (by omega)]
      exact Or.inr ⟨rfl, by rw [ha]; omega⟩
theorem x_plus (h : Val σ p u s) (h' : Val σ q u' s') (hr : RgV u s) (hr' : RgV u' s') : f_X10_plus σ sz p q = vQ (chk (al u s (mxI s s') + al u' s' (mxI s s')) (mxI s s')) σ sz := by
  have ⟨r1, r2, r3, r4⟩ := hr
  have ⟨t1, t2, t3, t4⟩ := hr'
  obtain ⟨m1, m2, m3⟩ := mxI_v s s'
  unfold f_X10_plus
  rw [h.s, h'.s, Option.bind_some, Option.bind_some, x_max ⟨by omega, by omega⟩ ⟨by omega, by omega⟩]
  dsimp only [lt_]
  rw [h.io, h'.io, Option.bind_some, x_aligned h hr ⟨by omega, by omega⟩, Option.bind_some]
  simp only [Option.bind_some]
  rw [x_aligned h' hr' ⟨by omega, by omega⟩]
  have big : ∀ a : Int, 2000000000000000000 < a.natAbs → ∀ b : Int, b.natAbs ≤ 999999999999999999 → chk (a + b) (mxI s s') = none ∧ chk (b + a) (mxI s s') = none := by
    intro a ha b hb
    unfold chk inR
    rw [decide_eq_false (by omega), decide_eq_false (by omega)]
    exact ⟨rfl, rfl⟩
  rcases raR_v hr m1 (by omega) with ⟨e1, g1, k1⟩ | ⟨e1, g1⟩
  · rw [e1]
    have e : mxI s s' = s' := by omega
    have e' : al u' s' (mxI s s') = u' := by rw [e]; exact al_0 _ _
    rw [(big _ g1 _ (by rw [e']; omega)).1]
    rfl
  · rw [e1]
    dsimp only [bs]
    rcases raR_v hr' m2 (by omega) with ⟨e2, g2, k2⟩ | ⟨e2, g2⟩
    · rw [e2]
      have e : mxI s s' = s := by omega
      have e' : al u s (mxI s s') = u := by rw [e]; exact al_0 _ _
      rw [(big _ g2 _ (by rw [e']; omega)).2]
      rfl
    · rw [e2, Option.bind_some]
      dsimp only
      rw [iL_add, x_checked ⟨by omega, by omega⟩ ⟨by omega, by omega⟩]
      exact vQ_id
theorem x_minus (h : Val σ p u s) (h' : Val σ q u' s') (hr : RgV u s) (hr' : RgV u' s') : f_X10_minus σ sz p q = vQ (chk (al u s (mxI s s') - al u' s' (mxI s s')) (mxI s s')) σ sz := by
  have ⟨r1, r2, r3, r4⟩ := hr
  have ⟨t1, t2, t3, t4⟩ := hr'
  obtain ⟨m1, m2, m3⟩ := mxI_v s s'
  unfold f_X10_minus
  rw [h.s, h'.s, Option.bind_some, Option.bind_some, x_max ⟨by omega, by omega⟩ ⟨by omega, by omega⟩]
  dsimp only [lt_]
  rw [h.io, h'.io, Option.bind_some, x_aligned h hr ⟨by omega, by omega⟩, Option.bind_some]
  simp only [Option.bind_some]
  rw [x_aligned h' hr' ⟨by omega, by omega⟩]
  have big : ∀ a : Int, 2000000000000000000 < a.natAbs → ∀ b : Int, b.natAbs ≤ 999999999999999999 → chk (a - b) (mxI s s') = none ∧ chk (b - a) (mxI s s') = none := by
    intro a ha b hb
    unfold chk inR
    rw [decide_eq_false (by omega), decide_eq_false (by omega)]
    exact ⟨rfl, rfl⟩
  rcases raR_v hr m1 (by omega) with ⟨e1, g1, k1⟩ | ⟨e1, g1⟩
  · rw [e1]
    have e : mxI s s' = s' := by omega
    have e' : al u' s' (mxI s s') = u' := by rw [e]; exact al_0 _ _
    rw [(big _ g1 _ (by rw [e']; omega)).1]
    rfl
  · rw [e1]
    dsimp only [bs]
    rcases raR_v hr' m2 (by omega) with ⟨e2, g2, k2⟩ | ⟨e2, g2⟩
    · rw [e2]
      have e : mxI s s' = s := by omega
      have e' : al u s (mxI s s') = u := by rw [e]; exact al_0 _ _
      rw [(big _ g2 _ (by rw [e']; omega)).2]
      rfl
    · rw [e2, Option.bind_some]
      dsimp only
      rw [iL_sub, x_checked ⟨by omega, by omega⟩ ⟨by omega, by omega⟩]
      exact vQ_id
theorem chk_big {a s : Int} (h : 999999999999999999 < a.natAbs) : chk a s = none := by
  unfold chk inR
  rw [decide_eq_false (by omega)]
  rfl
theorem x_times (h : Val σ p u s) (h' : Val σ q u' s') (hr : RgV u s) (hr' : RgV u' s') : f_X10_times σ sz p q = vQ (chk (u * u') (s + s')) σ sz := by
  have ⟨r1, r2, r3, r4⟩ := hr
  have ⟨t1, t2, t3, t4⟩ := hr'
  have ea : (u * u').natAbs = u.natAbs * u'.natAbs := Int.natAbs_mul _ _
  have fin : u.natAbs * u'.natAbs ≤ 999999999999999999 → b_X10_times_34 σ sz p q = vQ (chk (u * u') (s + s')) σ sz := by
    intro hle
    unfold b_X10_times_34
    rw [h.u, h'.u, h.s, h'.s]
    simp only [Option.bind_some]
    rw [iL_mul, iI_add, x_checked ⟨by omega, by omega⟩ ⟨by omega, by omega⟩]
    exact vQ_id
  unfold f_X10_times
  rw [h'.io, Option.bind_some, x_size h' hr', Option.bind_some]
  by_cases h0 : u'.natAbs = 0
  · rw [if_pos (by rw [h0]; rfl)]
    exact fin (by rw [h0, Nat.mul_zero]; omega)
  · have nz : ¬ iL (u'.natAbs : Nat) = 0 := fun w => by rw [iL_lit 0, jL_eq (by omega) (by omega)] at w; omega
    rw [if_neg nz, h.io, Option.bind_some, x_size h hr, Option.bind_some, if_neg nz, iL_lit 999999999999999999, jL_dv (by decide) (by omega)]
    have hd : 999999999999999999 / u'.natAbs ≤ 999999999999999999 := Nat.div_le_self _ _
    have iff : u.natAbs ≤ 999999999999999999 / u'.natAbs ↔ u.natAbs * u'.natAbs ≤ 999999999999999999 := Nat.le_div_iff_mul_le (by omega)
    by_cases h1 : u.natAbs * u'.natAbs ≤ 999999999999999999
    · rw [if_pos (by rw [jL_le (by omega) (by omega)]; omega)]
      exact fin h1
    · rw [if_neg (fun w => by rw [jL_le (by omega) (by omega)] at w; omega), chk_big (by omega)]
      rfl
end XV
