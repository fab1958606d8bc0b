/-! ===== values of the class: fewer digits, without zeros, quotients ===== -/
/-- a value came, or it was refused; nothing that was there has changed -/
def VO (r : Option (Int × Int)) (σ : Sto) (sz : Nat) (o : Option ((Nat ⊕ Nat) × Sto × Nat)) : Prop := ∃ τ sz', (∀ a, a < sz → τ a = σ a) ∧ sz ≤ sz' ∧ ((r = none ∧ o = some (.inl 3, τ, sz')) ∨ ∃ u s p, r = some (u, s) ∧ o = some (.inr p, τ, sz') ∧ Val τ p u s)
theorem nV_lo {σ : Sto} {sz a : Nat} {u s : Int} (h : a < sz) : nV σ sz u s a = σ a := va_up_ne _ _ (by omega)
theorem VO.vQ {r : Option (Int × Int)} {σ τ : Sto} {sz sz' : Nat} (h : ∀ a, a < sz → τ a = σ a) (hz : sz ≤ sz') : VO r σ sz (vQ r τ sz') := by
  cases r with
  | none => exact ⟨τ, sz', h, hz, Or.inl ⟨rfl, rfl⟩⟩
  | some q => exact ⟨nV τ sz' q.1 q.2, sz' + 1, fun a ha => (nV_lo (by omega)).trans (h a ha), by omega, Or.inr ⟨q.1, q.2, sz', rfl, rfl, Val.nV⟩⟩
theorem VO.id {r : Option (Int × Int)} {σ : Sto} {sz : Nat} {o : Option ((Nat ⊕ Nat) × Sto × Nat)} (h : VO r σ sz o) : VO r σ sz (b3 o fun u τ y => bs u (fun j => some (.inl j, τ, y)) fun p => some (.inr p, τ, y)) := by
  obtain ⟨τ, sz', h1, h2, h3⟩ := h
  refine ⟨τ, sz', h1, h2, ?_⟩
  rcases h3 with ⟨a, b⟩ | ⟨u, s, p, a, b, c⟩
  · rw [b]; exact Or.inl ⟨a, rfl⟩
  · rw [b]; exact Or.inr ⟨u, s, p, a, rfl, c⟩
/-- rounded to digits -/
def spD (u s : Int) (d : Nat) (m : Int32) : Option (Int × Int) :=
  if dgN u.natAbs ≤ d then some (u, s) else
  if u.natAbs % 10 ^ (dgN u.natAbs - d) ≠ 0 ∧ m = 110 then none else
  if dgN (rq (ng u) m u.natAbs (10 ^ (dgN u.natAbs - d))) ≤ d then chk (sgn (ng u) (rq (ng u) m u.natAbs (10 ^ (dgN u.natAbs - d)))) (s - ((dgN u.natAbs - d : Nat) : Int)) else
  chk (sgn (ng u) (rq (ng u) m u.natAbs (10 ^ (dgN u.natAbs - d)) / 10)) (s - ((dgN u.natAbs - d + 1 : Nat) : Int))
section XV3
variable {σ : Sto} {sz p q N : Nat} {u s u' s' : Int}
theorem x_toDigits {d : Nat} {m : Int32} (h : Val σ p u s) (hr : RgV u s) (hd : 1 ≤ d ∧ d ≤ 18) (hm : okM m = true) (hN : 30 ≤ N) : VO (spD u s d m) σ sz (f_X10_toDigits N σ sz p (iI (d : Nat)) m) := by
  have ⟨r1, r2, r3, r4⟩ := hr
  have d1 := dg_18 (n := u.natAbs) (by omega)
  have d2 := dgN_pos u.natAbs
  unfold f_X10_toDigits spD
  rw [h.io, Option.bind_some, x_digits h hr hN, Option.bind_some, iI_sub]
  simp only [lt_]
  by_cases h0 : dgN u.natAbs ≤ d
  · rw [if_pos h0, if_neg (show ¬ (0 : Int32) < iI ((dgN u.natAbs : Int) - (d : Int)) from fun w => by rw [iI_lit 0, iI_lt ⟨by decide, by decide⟩ ⟨by omega, by omega⟩] at w; omega)]
    exact ⟨σ, sz, fun _ _ => rfl, Nat.le_refl _, Or.inr ⟨u, s, p, rfl, rfl, h⟩⟩
  rw [if_neg h0, if_pos (show (0 : Int32) < iI ((dgN u.natAbs : Int) - (d : Int)) by rw [iI_lit 0, iI_lt ⟨by decide, by decide⟩ ⟨by omega, by omega⟩]; omega)]
  obtain ⟨k, hk⟩ : ∃ k : Nat, k = dgN u.natAbs - d := ⟨_, rfl⟩
  rw [← hk, show ((dgN u.natAbs : Int) - (d : Int)) = (k : Int) by omega, x_sizeCut h hr (by omega) hm, Option.bind_some]
  have hq := rq_le (ng u) m u.natAbs (10 ^ k)
  have hq2 := Nat.div_le_self u.natAbs (10 ^ k)
  unfold rqR
  by_cases h1 : u.natAbs % 10 ^ k ≠ 0 ∧ m = 110
  · rw [if_pos h1, if_pos h1]
    exact ⟨σ, sz, fun _ _ => rfl, Nat.le_refl _, Or.inl ⟨rfl, rfl⟩⟩
  rw [if_neg h1, if_neg h1]
  generalize rq (ng u) m u.natAbs (10 ^ k) = Q at *
  have dQ : dgN Q ≤ 19 := (dgN_le (by decide)).mpr (by omega)
  dsimp only [bs]
  rw [x_digitsOf (by omega) hN, Option.bind_some]
  have fin : ∀ (Q' k' : Nat), Q' < 9223372036854775808 → k' ≤ 100 → VO (chk (sgn (ng u) Q') (s - (k' : Int))) σ sz (b_X10_toDigits_41 N σ sz p (iI (k' : Nat)) (iL (Q' : Nat))) := by
    intro Q' k' h3 h4
    have key : b_X10_toDigits_55 N σ sz p (iI (k' : Nat)) (iL (Q' : Nat)) (bI (ng u)) = vQ (chk (sgn (ng u) Q') (s - (k' : Int))) σ sz := by
      unfold b_X10_toDigits_55
      rw [h.s, Option.bind_some, iI_sub, x_signed h3 ⟨by omega, by omega⟩]
      exact vQ_id
    unfold b_X10_toDigits_41
    rw [h.u, Option.bind_some, x_ng ⟨by omega, by omega⟩]
    have e : (if ng u = true then b_X10_toDigits_55 N σ sz p (iI (k' : Nat)) (iL (Q' : Nat)) 1 else b_X10_toDigits_55 N σ sz p (iI (k' : Nat)) (iL (Q' : Nat)) 0) = b_X10_toDigits_55 N σ sz p (iI (k' : Nat)) (iL (Q' : Nat)) (bI (ng u)) := by
      cases ng u <;> rfl
    rw [e, key]
    exact VO.vQ (fun _ _ => rfl) (Nat.le_refl _)
  by_cases h2 : dgN Q ≤ d
  · rw [if_pos h2, if_pos (show iI (dgN Q : Nat) ≤ iI (d : Nat) by rw [jI_le (by omega) (by omega)]; exact h2)]
    exact fin Q k (by omega) (by omega)
  · rw [if_neg h2, if_neg (show ¬ iI (dgN Q : Nat) ≤ iI (d : Nat) from fun w => h2 (by rw [jI_le (by omega) (by omega)] at w; exact w)), iL_lit 10, jL_dv (by omega) (by decide), jI_s]
    exact fin (Q / 10) (k + 1) (by omega) (by omega)
/-- how many zeros at the end -/
def tz (n : Nat) : Nat := if h : n = 0 then 0 else if n % 10 = 0 then tz (n / 10) + 1 else 0
termination_by n
decreasing_by omega
theorem tz_s {n : Nat} (h : n ≠ 0) (h2 : n % 10 = 0) : tz n = tz (n / 10) + 1 := by
  rw [tz, dif_neg h, if_pos h2]
theorem tz_0 {n : Nat} (h2 : n = 0 ∨ n % 10 ≠ 0) : tz n = 0 := by
  rw [tz]
  by_cases h : n = 0
  · rw [dif_pos h]
  · rw [dif_neg h, if_neg (by omega)]
theorem tz_at (n j : Nat) (hj : j ≤ tz n) : tz n = j + tz (n / 10 ^ j) := by
  induction j with
  | zero => simp
  | succ j ih =>
    have ih := ih (by omega)
    have h1 : tz (n / 10 ^ j) ≠ 0 := by omega
    have h2 : n / 10 ^ j ≠ 0 := fun w => h1 (tz_0 (Or.inl w))
    have h3 : n / 10 ^ j % 10 = 0 := by
      rcases Nat.eq_zero_or_pos (n / 10 ^ j % 10) with w | w
      · exact w
      · exact absurd (tz_0 (Or.inr (by omega))) h1
    have h4 := tz_s h2 h3
    rw [Nat.pow_succ, ← Nat.div_div_eq_div_mul]
    omega
theorem tz_in {n j : Nat} (hj : j < tz n) : n / 10 ^ j ≠ 0 ∧ n / 10 ^ j % 10 = 0 := by
  have h1 := tz_at n j (by omega)
  have h0 : tz (n / 10 ^ j) ≠ 0 := by omega
  refine ⟨fun w => h0 (tz_0 (Or.inl w)), ?_⟩
  rcases Nat.eq_zero_or_pos (n / 10 ^ j % 10) with w | w
  · exact w
  · exact absurd (tz_0 (Or.inr (by omega))) h0
theorem tz_end {n : Nat} (h : n ≠ 0) : n / 10 ^ tz n ≠ 0 ∧ n / 10 ^ tz n % 10 ≠ 0 := by
  have h1 := tz_at n (tz n) (Nat.le_refl _)
  have h2 : n / 10 ^ tz n ≠ 0 := by
    cases ht : tz n with
    | zero => simpa using h
    | succ j =>
      have := tz_in (n := n) (j := j) (by omega)
      rw [Nat.pow_succ, ← Nat.div_div_eq_div_mul]
      omega
  refine ⟨h2, fun w => ?_⟩
  have := tz_s h2 w
  omega
theorem tz_le {n : Nat} (hn : n ≤ 999999999999999999) : tz n ≤ 17 := by
  rcases Nat.lt_or_ge 17 (tz n) with h | h
  · have h1 := (tz_in (n := n) (j := 17) h)
    have h2 : n / 10 ^ 17 ≤ 9 := by omega
    have h3 := h1.1
    have h4 := h1.2
    omega
  · exact h
theorem sg_tdiv {b : Bool} {n : Nat} (hn : n < 9223372036854775808) : iL (sgn b n) / 10 = iL (sgn b (n / 10)) ∧ ((iL (sgn b n) - iL (sgn b n) / 10 * 10 = 0) ↔ n % 10 = 0) := by
  have h1 : iL (sgn b n) / 10 = iL (sgn b (n / 10)) := by
    rw [iL_lit 10, iL_div ⟨by unfold sgn; cases b <;> simp <;> omega, by unfold sgn; cases b <;> simp <;> omega⟩ ⟨by decide, by decide⟩]
    congr 1
    unfold sgn
    cases b
    · rw [if_neg (by decide), if_neg (by decide), Int.tdiv_eq_ediv_of_nonneg (by omega)]
      rfl
    · rw [if_pos rfl, if_pos rfl, Int.neg_tdiv, Int.tdiv_eq_ediv_of_nonneg (by omega)]
      rfl
  refine ⟨h1, ?_⟩
  rw [h1, iL_lit 10, iL_mul, iL_sub, iL_lit 0]
  have e : sgn b n - sgn b (n / 10) * ((10 : Nat) : Int) = sgn b (n % 10) := by
    unfold sgn
    cases b
    · rw [if_neg (by decide), if_neg (by decide), if_neg (by decide)]; omega
    · rw [if_pos rfl, if_pos rfl, if_pos rfl]; omega
  have l : n % 10 < 10 := Nat.mod_lt _ (by decide)
  have e2 := sgn_abs b (n % 10)
  rw [e, iL_eq ⟨by omega, by omega⟩ ⟨by decide, by decide⟩]
  omega
/-- without zeros at the end -/
def spS (u s : Int) : Option (Int × Int) := if u = 0 then some (0, 0) else chk (sgn (ng u) (u.natAbs / 10 ^ tz u.natAbs)) (s - (tz u.natAbs : Nat))
theorem x_stripped (h : Val σ p u s) (hr : RgV u s) (hN : 30 ≤ N) : f_X10_stripped N σ sz p = vQ (spS u s) σ sz := by
  have ⟨r1, r2, r3, r4⟩ := hr
  have t := tz_le (n := u.natAbs) (by omega)
  unfold f_X10_stripped spS
  rw [h.u, Option.bind_some]
  by_cases h0 : u = 0
  · rw [if_pos (by rw [h0]; rfl), if_pos h0]
    dsimp only [lt_]
    rw [show (0 : Int64) = iL 0 from rfl, show (0 : Int32) = iI 0 from rfl, x_newV]
    rfl
  rw [if_neg (fun w => h0 (by rw [iL_lit 0, iL_eq ⟨by omega, by omega⟩ ⟨by decide, by decide⟩] at w; exact w)), if_neg h0, Option.bind_some]
  unfold b_X10_stripped_26
  have key := lp_for (F := fun k (e : Sto × Nat × Nat × Int64 × Int32) => b_X10_stripped_26_body N k e.1 e.2.1 e.2.2.1 e.2.2.2.1 e.2.2.2.2) (n := tz u.natAbs) (st := fun j => (σ, sz, p, iL (sgn (ng u) (u.natAbs / 10 ^ j)), iI (j : Nat))) (r := vQ (chk (sgn (ng u) (u.natAbs / 10 ^ tz u.natAbs)) (s - (tz u.natAbs : Nat))) σ sz) ?_ ?_ N 0 (Nat.zero_le _) (by omega)
  · rw [Nat.pow_zero, Nat.div_one, sgn_ng] at key
    exact key
  · intro j hj K
    have t2 := tz_in hj
    have t3 := Nat.div_le_self u.natAbs (10 ^ j)
    have t4 := sg_tdiv (b := ng u) (n := u.natAbs / 10 ^ j) (by omega)
    dsimp only
    unfold b_X10_stripped_26_body
    rw [if_neg (fun w => by rw [iI_lit 18, jI_le (by omega) (by omega)] at w; omega), if_pos (t4.2.mpr t2.2), t4.1]
    simp only [lt_]
    rw [jI_s, Nat.pow_succ, ← Nat.div_div_eq_div_mul]
  · intro K
    have t2 := tz_end (n := u.natAbs) (by omega)
    have t3 := Nat.div_le_self u.natAbs (10 ^ tz u.natAbs)
    have t4 := sg_tdiv (b := ng u) (n := u.natAbs / 10 ^ tz u.natAbs) (by omega)
    have t5 := sgn_abs (ng u) (u.natAbs / 10 ^ tz u.natAbs)
    dsimp only
    unfold b_X10_stripped_26_body
    rw [if_neg (fun w => by rw [iI_lit 18, jI_le (by omega) (by omega)] at w; omega), if_neg (fun w => t2.2 (t4.2.mp w))]
    unfold b_X10_stripped_54
    rw [h.s, Option.bind_some, iI_sub, x_checked ⟨by omega, by omega⟩ ⟨by omega, by omega⟩]
    exact vQ_id
end XV3
/-! a long division -/
def Dv (σ : Sto) (a : Nat) (d c r : Nat) : Prop := ∃ V, σ a = some (.inl (1, V)) ∧ V 0 = .long (iL (d : Nat)) ∧ V 1 = .long (iL (c : Nat)) ∧ V 2 = .long (iL (r : Nat))
section DV
variable {σ : Sto} {a d c r : Nat}
theorem Dv.io (h : Dv σ a d c r) : isO σ a 1 = some () := by
  obtain ⟨V, h1, h2, h3, h4⟩ := h
  unfold isO
  rw [h1]
  rfl
theorem Dv.gd (h : Dv σ a d c r) : gL σ a 1 0 = some (iL (d : Nat)) := by
  obtain ⟨V, h1, h2, h3, h4⟩ := h
  unfold gL oF
  rw [h1]
  simp [h2]
theorem Dv.gc (h : Dv σ a d c r) : gL σ a 1 1 = some (iL (c : Nat)) := by
  obtain ⟨V, h1, h2, h3, h4⟩ := h
  unfold gL oF
  rw [h1]
  simp [h3]
theorem Dv.gr (h : Dv σ a d c r) : gL σ a 1 2 = some (iL (r : Nat)) := by
  obtain ⟨V, h1, h2, h3, h4⟩ := h
  unfold gL oF
  rw [h1]
  simp [h4]
theorem Dv.pc (h : Dv σ a d c r) (c' : Nat) : ∃ τ, pF σ a 1 1 (.long (iL (c' : Nat))) = some τ ∧ Dv τ a d c' r ∧ ∀ b, b ≠ a → τ b = σ b := by
  obtain ⟨V, h1, h2, h3, h4⟩ := h
  unfold pF
  rw [h1]
  refine ⟨_, rfl, ⟨va_up V 1 (.long (iL (c' : Nat))), va_up_self _ _ _, ?_, va_up_self _ _ _, ?_⟩, fun b hb => va_up_ne _ _ hb⟩
  · rw [va_up_ne _ _ (by decide)]; exact h2
  · rw [va_up_ne _ _ (by decide)]; exact h4
theorem Dv.pr (h : Dv σ a d c r) (r' : Nat) : ∃ τ, pF σ a 1 2 (.long (iL (r' : Nat))) = some τ ∧ Dv τ a d c r' ∧ ∀ b, b ≠ a → τ b = σ b := by
  obtain ⟨V, h1, h2, h3, h4⟩ := h
  unfold pF
  rw [h1]
  refine ⟨_, rfl, ⟨va_up V 2 (.long (iL (r' : Nat))), va_up_self _ _ _, ?_, ?_, va_up_self _ _ _⟩, fun b hb => va_up_ne _ _ hb⟩
  · rw [va_up_ne _ _ (by decide)]; exact h2
  · rw [va_up_ne _ _ (by decide)]; exact h3
/-- of a size by a divisor -/
theorem x_newD {σ : Sto} {sz x y : Nat} (hx : x < 9223372036854775808) (hy : 0 < y) (hy2 : y < 9223372036854775808) : ∃ τ, f_X1_init (nO σ sz 1 dvX1) sz (iL (x : Nat)) (iL (y : Nat)) = some ((), τ) ∧ Dv τ sz y (x / y) (x % y) ∧ ∀ b, b ≠ sz → τ b = σ b := by
  have nz : ¬ iL (y : Nat) = 0 := fun w => by rw [iL_lit 0, jL_eq (by omega) (by omega)] at w; omega
  have mx : (if 1 < iL (y : Nat) then iL (y : Nat) else 1) = iL (y : Nat) := by
    by_cases h : 1 < y
    · rw [if_pos (by rw [iL_lit 1, jL_lt (by omega) (by omega)]; exact h)]
    · rw [if_neg (fun w => h (by rw [iL_lit 1, jL_lt (by omega) (by omega)] at w; exact w)), show y = 1 by omega]
      rfl
  unfold f_X1_init
  rw [mx]
  unfold nO pF gL oF
  simp only [va_up_self, va_up_2, if_true, Option.bind_some, if_neg nz, va_up_ne _ _ (show (1 : Nat) ≠ 0 by decide), va_up_ne _ _ (show (0 : Nat) ≠ 1 by decide), va_up_ne _ _ (show (0 : Nat) ≠ 2 by decide)]
  rw [jL_md hx hy2, jL_dv hx hy2]
  refine ⟨_, rfl, ⟨_, va_up_self _ _ _, ?_, ?_, ?_⟩, fun b hb => va_up_ne _ _ hb⟩
  · rw [va_up_ne _ _ (by decide), va_up_ne _ _ (by decide), va_up_self]
  · rw [va_up_ne _ _ (by decide), va_up_self]
  · rw [va_up_self]
/-- one more place; 3 where the cut would be too long -/
theorem x_bring (h : Dv σ a d c r) (hr : r < d) (hd : d ≤ 999999999999999999) (hc : c < 9223372036854775808) : (99999999999999999 < c ∧ f_X1_bringDown σ a = some (.inl 3, σ)) ∨ (c ≤ 99999999999999999 ∧ ∃ τ, f_X1_bringDown σ a = some (.inr (), τ) ∧ Dv τ a d (c * 10 + r * 10 / d) (r * 10 % d) ∧ ∀ b, b ≠ a → τ b = σ b) := by
  unfold f_X1_bringDown
  rw [h.gc, Option.bind_some, iL_lit 99999999999999999]
  by_cases h0 : c ≤ 99999999999999999
  · rw [if_pos (by rw [jL_le (by omega) (by omega)]; exact h0)]
    refine Or.inr ⟨h0, ?_⟩
    have nz : ¬ iL (d : Nat) = 0 := fun w => by rw [iL_lit 0, jL_eq (by omega) (by omega)] at w; omega
    have fin : ∀ (dg lf : Nat), dg = r * 10 / d → lf = r * 10 % d → ∃ τ, b_X1_bringDown_76 σ a (iL (dg : Nat)) (iL (lf : Nat)) = some (.inr (), τ) ∧ Dv τ a d (c * 10 + r * 10 / d) (r * 10 % d) ∧ ∀ b, b ≠ a → τ b = σ b := by
      intro dg lf e1 e2
      unfold b_X1_bringDown_76
      rw [h.gc, Option.bind_some, iL_lit 10, jL_mul, jL_add]
      obtain ⟨τ1, a1, a2, a3⟩ := h.pc (c * 10 + dg)
      obtain ⟨τ2, b1, b2, b3⟩ := a2.pr lf
      rw [a1, Option.bind_some, b1, Option.bind_some]
      rw [← e1, ← e2]
      exact ⟨τ2, rfl, b2, fun b hb => (b3 b hb).trans (a3 b hb)⟩
    have m1 := Nat.div_add_mod (r * 5) d
    have m2 : r * 5 % d < d := Nat.mod_lt _ (by omega)
    have q5 : r * 5 / d < 5 := (Nat.div_lt_iff_lt_mul (by omega)).mpr (by omega)
    rw [h.gr, Option.bind_some, iL_lit 5, jL_mul, h.gd]
    simp only [lt_, Option.bind_some, if_neg nz]
    rw [jL_md (by omega) (by omega), jL_dv (by omega) (by omega), iL_lit 2, jL_mul, jL_mul]
    by_cases h1 : r * 5 % d * 2 < d
    · rw [if_pos (by rw [jL_lt (by omega) (by omega)]; exact h1)]
      have e1 : r * 10 = d * (r * 5 / d * 2) + r * 5 % d * 2 := by
        rw [← Nat.mul_assoc]; omega
      refine fin _ _ ?_ ?_
      · rw [e1, Nat.mul_add_div (by omega), Nat.div_eq_of_lt h1]; rfl
      · rw [e1, Nat.mul_add_mod, Nat.mod_eq_of_lt h1]
    · rw [if_neg (fun w => h1 (by rw [jL_lt (by omega) (by omega)] at w; exact w)), jL_sub (by omega), iL_lit 1, jL_add]
      have e1 : r * 10 = d * (r * 5 / d * 2 + 1) + (r * 5 % d * 2 - d) := by
        rw [Nat.mul_add, ← Nat.mul_assoc]; omega
      have h2 : r * 5 % d * 2 - d < d := by omega
      refine fin _ _ ?_ ?_
      · rw [e1, Nat.mul_add_div (by omega), Nat.div_eq_of_lt h2]
      · rw [e1, Nat.mul_add_mod, Nat.mod_eq_of_lt h2]
  · rw [if_neg (fun w => h0 (by rw [jL_le (by omega) (by omega)] at w; exact w))]
    exact Or.inl ⟨by omega, rfl⟩
end DV
