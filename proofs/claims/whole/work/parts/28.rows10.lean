/-! ===== quotients of rows ===== -/
theorem cmpN_v (x y : Nat) : (x < y ∧ cmpN x y = -1) ∨ (x = y ∧ cmpN x y = 0) ∨ (y < x ∧ cmpN x y = 1) := by
  unfold cmpN
  by_cases h : x < y
  · exact Or.inl ⟨h, if_pos h⟩
  · rw [if_neg h]
    by_cases h2 : x = y
    · exact Or.inr (Or.inl ⟨h2, if_pos h2⟩)
    · exact Or.inr (Or.inr ⟨by omega, if_neg h2⟩)
theorem cmpN_neg {x y : Nat} : iI (cmpN x y) < 0 ↔ x < y := by
  rcases cmpN_v x y with ⟨h, e⟩ | ⟨h, e⟩ | ⟨h, e⟩
  · rw [e]; exact ⟨fun _ => h, fun _ => by decide⟩
  · rw [e]; exact ⟨fun q => absurd q (by decide), fun q => absurd q (by omega)⟩
  · rw [e]; exact ⟨fun q => absurd q (by decide), fun q => absurd q (by omega)⟩
theorem m_divides_60 {mb : Nat} {M0 : MS} {σ : Sto} {T y i N : Nat} (hT : Hv M0 3 T) (hy : Hv M0 1 y) (hy0 : 0 < y) (hq : T / y < 10) (hi : i < 240) (hN : 600 ≤ N) :
    ∃ M', (Sf [2, 3] M0 M' ∧ Hv M' 3 (T % y) ∧ M'.2.1 0 (240 * 2 + i) = iI ((T / y : Nat) : Int) ∧ (∀ j, j < 240 → j ≠ i → M'.2.1 0 (240 * 2 + j) = M0.2.1 0 (240 * 2 + j)) ∧ M'.2.1 1 2 = M0.2.1 1 2) ∧ ∀ K : Sto × Nat × Int32 → Option (Unit × Sto), b_X12_divides_60 N K (ov mb M0 σ) mb (iI i) 0 = K (ov mb M' σ, mb, iI ((i : Int) - 1)) := by
  have e3 : (480 : Int32) + iI (i : Nat) = iI ((480 + i : Nat) : Int) := by rw [iI_lit 480, jI_add]
  have e4 : inB (iI ((480 + i : Nat) : Int)) 2400 = true := (iI_inB ⟨by omega, by omega⟩).mpr ⟨by omega, by omega⟩
  have e5 : (iI ((480 + i : Nat) : Int)).toNatClampNeg = 240 * 2 + i := by rw [iI_cl ⟨by omega, by omega⟩]; omega
  unfold b_X12_divides_60
  rw [iI_lit 0]
  refine lp_fam (F := fun (K1 : Sto × Nat × Int32 → Option (Unit × Sto)) k e => b_X12_divides_60_body N K1 k e.1 e.2.1 e.2.2.1 e.2.2.2) (G := fun K1 M' => K1 (ov mb M' σ, mb, iI ((i : Int) - 1))) (Post := fun M' => Sf [2, 3] M0 M' ∧ Hv M' 3 (T % y) ∧ M'.2.1 0 (240 * 2 + i) = iI ((T / y : Nat) : Int) ∧ (∀ j, j < 240 → j ≠ i → M'.2.1 0 (240 * 2 + j) = M0.2.1 0 (240 * 2 + j)) ∧ M'.2.1 1 2 = M0.2.1 1 2) (n := T / y) (Inv := fun n e => ∃ M1, e = (ov mb M1 σ, mb, iI (i : Nat), iI (n : Nat)) ∧ Sf [3] M0 M1 ∧ Hv M1 3 (T - n * y)) ?_ ?_ N 0 _ (Nat.zero_le _) (by omega) ?_
  · rintro n _ hn ⟨M1, rfl, i1, i2⟩
    have hy1 := i1.Hv (r := 1) (by decide) hy
    have h1 : (n + 1) * y ≤ T := Nat.le_trans (Nat.mul_le_mul_right y hn) (Nat.div_mul_le_self T y)
    rw [Nat.add_mul, Nat.one_mul] at h1
    obtain ⟨M2, a1, a2, a3⟩ := m_less (mb := mb) (M := M1) (σ := σ) (a := 3) (b := 1) (N := N) (by decide) (by decide) (by decide) i2 hy1 (by omega) (by omega)
    refine ⟨_, ⟨M2, rfl, i1.tr a2, by rw [Nat.add_mul, Nat.one_mul, ← Nat.sub_sub]; exact a3⟩, fun K1 K => ?_⟩
    dsimp only
    unfold b_X12_divides_60_body
    rw [ov_isO, Option.bind_some, iI_lit 3, iI_lit 1, m_compares (a := 3) (b := 1) (by decide) (by decide) i2 hy1 (by omega), Option.bind_some, if_neg (fun q => by rw [cmpN_neg] at q; omega), a1]
    show K (_, _, _, iI (n : Nat) + iI (1 : Nat)) = _
    rw [jI_add]
  · rintro _ ⟨M1, rfl, i1, i2⟩
    have hy1 := i1.Hv (r := 1) (by decide) hy
    have e : T - T / y * y = T % y := by rw [Nat.mod_def, Nat.mul_comm]
    rw [e] at i2
    have hlt : T % y < y := Nat.mod_lt _ hy0
    refine ⟨uA M1 0 (240 * 2 + i) (iI ((T / y : Nat) : Int)), ⟨(i1.mono (by simp)).tr ((Sf.dig (r := 2) hi).mono (by simp)), (Sf.dig (r := 2) hi).Hv (r := 3) (by decide) i2, uA_same, fun j hj hji => ?_, ?_⟩, fun K1 K => ?_⟩
    · rw [uA_ne (by omega)]
      exact (i1.2.2.2 2 (by decide)).2 j hj
    · rw [uA_nk (by decide)]
      exact (i1.2.2.2 2 (by decide)).1
    · dsimp only
      unfold b_X12_divides_60_body
      rw [ov_isO, Option.bind_some, iI_lit 3, iI_lit 1, m_compares (a := 3) (b := 1) (by decide) (by decide) i2 hy1 (by omega), Option.bind_some, if_pos (cmpN_neg.mpr hlt)]
      simp only [oR_0, oS_0, Option.bind_some, e3, e4, e5, if_true, lt_]
      rw [iI_neg, iI_add]
      rfl
  · exact ⟨M0, rfl, Sf.rf, by rw [Nat.zero_mul]; exact hT⟩
theorem qdig {x y i : Nat} (hy : 0 < y) : ∃ T, T = x / 10 ^ (i + 1) % y * 10 ^ 1 + x / 10 ^ i % 10 ∧ T / y < 10 ∧ T / y = x / y / 10 ^ i % 10 ∧ T % y = x / 10 ^ i % y := by
  refine ⟨_, rfl, ?_⟩
  have d := dig_s x i
  have l1 : x / 10 ^ i % 10 < 10 := Nat.mod_lt _ (by decide)
  have l2 : x / 10 ^ (i + 1) % y < y := Nat.mod_lt _ hy
  have c : x / y / 10 ^ i = x / 10 ^ i / y := by rw [Nat.div_div_eq_div_mul, Nat.div_div_eq_div_mul, Nat.mul_comm]
  have m := Nat.div_add_mod (x / 10 ^ (i + 1)) y
  rw [c]
  generalize x / 10 ^ i % 10 = dd at *
  generalize x / 10 ^ (i + 1) % y = R at *
  generalize x / 10 ^ (i + 1) / y = Q at *
  generalize x / 10 ^ (i + 1) = P at *
  generalize x / 10 ^ i = X at *
  have lt : (R * 10 ^ 1 + dd) / y < 10 := (Nat.div_lt_iff_lt_mul hy).mpr (by omega)
  have e : X = y * (10 * Q) + (R * 10 ^ 1 + dd) := by
    rw [Nat.mul_left_comm]
    omega
  have e1 : X / y = 10 * Q + (R * 10 ^ 1 + dd) / y := by rw [e, Nat.mul_add_div hy]
  have e2 : X % y = (R * 10 ^ 1 + dd) % y := by rw [e, Nat.mul_add_mod]
  have gen : ∀ q : Nat, q < 10 → q = (10 * Q + q) % 10 := by intro q hq; omega
  refine ⟨lt, ?_, e2.symm⟩
  rw [e1]
  exact gen _ lt
theorem m_divides {mb : Nat} {M : MS} {σ : Sto} {x y N : Nat} (hx : Hv M 0 x) (hy : Hv M 1 y) (hy0 : 0 < y) (h1 : nd x ≤ 239) (h2 : nd y ≤ 230) (hN : 600 ≤ N) :
    ∃ M', f_X12_divides N (ov mb M σ) mb = some ((), ov mb M' σ) ∧ Sf [2, 3, 8] M M' ∧ Hv M' 2 (x / y) ∧ Hv M' 3 (x % y) := by
  obtain ⟨s1, s2⟩ := rI (show 3 < 10 by decide)
  obtain ⟨q1, q2⟩ := rI (show 2 < 10 by decide)
  obtain ⟨z1, z2⟩ := rI (show 0 < 10 by decide)
  have S3 : Sf [3] M (uA M 1 3 (iI (0 : Nat))) := Sf.many
  have hx0 := S3.Hv (r := 0) (by decide) hx
  have S2 : Sf [2] (uA M 1 3 (iI (0 : Nat))) (uA (uA M 1 3 (iI (0 : Nat))) 1 2 (iI (nd x : Nat))) := Sf.many
  have hx00 := S2.Hv (r := 0) (by decide) hx0
  unfold f_X12_divides
  rw [iI_lit 3, iI_lit 2, iI_lit 0]
  simp only [oR_1, oS_1, oA_1, Option.bind_some, s1, s2, q1, q2, z1, z2, if_true, hx0.1, hx00.1, lt_]
  unfold b_X12_divides_28
  rw [iI_lit 1, iI_sub]
  refine lp_ex (n := nd x) (Inv := fun j e => ∃ M1, e = (ov mb M1 σ, mb, iI ((nd x : Int) - 1 - j)) ∧ Sf [2, 3, 8] M M1 ∧ Hv M1 3 (x / 10 ^ (nd x - j) % y) ∧ M1.2.1 1 2 = iI (nd x : Nat) ∧ ∀ i, nd x - j ≤ i → i < nd x → M1.2.1 0 (240 * 2 + i) = iI ((x / y / 10 ^ i % 10 : Nat) : Int)) (Post := fun o => ∃ M', o = some ((), ov mb M' σ) ∧ Sf [2, 3, 8] M M' ∧ Hv M' 2 (x / y) ∧ Hv M' 3 (x % y)) ?_ ?_ N 0 _ (Nat.zero_le _) (by omega) ?_
  · rintro j _ hj ⟨M1, rfl, i1, i2, i3, i4⟩
    obtain ⟨i, hi, hi2⟩ : ∃ i, nd x - j = i + 1 ∧ i < nd x := ⟨nd x - (j + 1), by omega, by omega⟩
    have ei : (nd x : Int) - 1 - (j : Nat) = (i : Nat) := by omega
    have ei2 : nd x - (j + 1) = i := by omega
    rw [hi] at i2 i4
    obtain ⟨T, hT, t1, t2, t3⟩ := @qdig x y i hy0
    have l1 : x / 10 ^ i % 10 < 10 := Nat.mod_lt _ (by decide)
    have lR : x / 10 ^ (i + 1) % y < y := Nat.mod_lt _ hy0
    have nR : nd (x / 10 ^ (i + 1) % y) ≤ nd y := nd_mono (by omega)
    have nR1 : nd (x / 10 ^ (i + 1) % y * 10 ^ 1) ≤ nd y + 1 := by
      refine nd_le.mp ?_
      have h3 := lt_pw nR
      have h4 : 10 ^ (nd y + 1) = 10 ^ nd y * 10 := by rw [Nat.pow_succ]
      omega
    have nd1 : nd (x / 10 ^ i % 10) ≤ 1 := nd_le.mp (by omega)
    obtain ⟨M2, a1, a2, a3⟩ := m_shifts (mb := mb) (M := M1) (σ := σ) (r := 3) (z := ((1 : Nat) : Int)) (N := N) (by decide) ⟨by omega, by omega⟩ i2 (Or.inr (by omega)) (by omega)
    rw [Int.toNat_natCast] at a3
    have hx2 := (i1.tr (a2.mono (by simp))).Hv (r := 0) (by decide) hx
    obtain ⟨M3, b1, b2', b3'⟩ := m_lets (mb := mb) (M := M2) (σ := σ) (r := 8) (z := ((x / 10 ^ i % 10 : Nat) : Int)) (N := N) (by decide) ⟨by omega, by omega⟩ (by omega)
    rw [Int.natAbs_natCast] at b3'
    obtain ⟨M4, c1, c2, c3⟩ := m_plus (mb := mb) (M := M3) (σ := σ) (a := 3) (b := 8) (N := N) (by decide) (by decide) (by decide) (b2'.Hv (r := 3) (by decide) a3) b3' (by omega) (by omega) (by omega)
    rw [← hT] at c3
    have S4 : Sf [2, 3, 8] M M4 := ((i1.tr (a2.mono (by simp))).tr (b2'.mono (by simp))).tr (c2.mono (by simp))
    have S14 : Sf [3, 8] M1 M4 := ((a2.mono (by simp)).tr (b2'.mono (by simp))).tr (c2.mono (by simp))
    obtain ⟨M5, ⟨d2, d3, d4, d5, d6⟩, d1⟩ := m_divides_60 (mb := mb) (M0 := M4) (σ := σ) (N := N) c3 (S4.Hv (r := 1) (by decide) hy) hy0 t1 (show i < 240 by omega) (by omega)
    refine ⟨_, ⟨M5, rfl, S4.tr (d2.mono (by simp)), ?_, ?_, fun k hk1 hk2 => ?_⟩, fun K => ?_⟩
    · rw [ei2, ← t3]; exact d3
    · rw [d6, (S14.2.2.2 2 (by decide)).1, i3]
    · by_cases hki : k = i
      · subst hki
        rw [d4, t2]
      · rw [d5 k (by omega) hki, (S14.2.2.2 2 (by decide)).2 k (by omega)]
        exact i4 k (by omega) hk2
    · dsimp only
      unfold b_X12_divides_28_body
      rw [ei, if_neg (fun q => by rw [iI_lit 0, jI_lt (by omega) (by omega)] at q; omega), ov_isO, Option.bind_some, iI_lit 3, iI_lit 1, a1]
      show (isO (ov mb M2 σ) mb 11).bind _ = _
      rw [ov_isO, Option.bind_some, iI_lit 0, m_digit (r := 0) (by decide) (by omega) hx2, Option.bind_some, iI_iL ⟨by omega, by omega⟩, iI_lit 8, b1]
      show (isO (ov mb M3 σ) mb 11).bind _ = _
      rw [ov_isO, Option.bind_some, c1]
      show b_X12_divides_60 N K (ov mb M4 σ) mb (iI i) (iI (0 : Nat)) = _
      rw [← iI_lit 0]
      rw [show (OfNat.ofNat 0 : Int32) = 0 from rfl, d1]
      congr 4
      omega
  · rintro _ ⟨M1, rfl, i1, i2, i3, i4⟩ K
    rw [Nat.sub_self, Nat.pow_zero, Nat.div_one] at i2
    rw [Nat.sub_self] at i4
    obtain ⟨M2, a1, a2, a3⟩ := m_trims (mb := mb) (M := M1) (σ := σ) (r := 2) (v := x / y) (n := nd x) (N := N) (by decide) (by omega) (by omega) i3 (fun k hk => i4 k (by omega) hk) (Nat.lt_of_le_of_lt (Nat.div_le_self x y) (lt_pw (Nat.le_refl _)))
    dsimp only
    unfold b_X12_divides_28_body
    rw [if_pos (by rw [iI_lit 0, iI_lt ⟨by omega, by omega⟩ ⟨by decide, by decide⟩]; omega), ov_isO, Option.bind_some, iI_lit 2, a1]
    exact ⟨M2, rfl, i1.tr (a2.mono (by simp)), a3, a2.Hv (r := 3) (by decide) i2⟩
  · refine ⟨_, ?_, (S3.mono (by simp)).tr (S2.mono (by simp)), ?_, uA_same, fun i h1 h2 => absurd h2 (by omega)⟩
    · simp
    · rw [Nat.sub_zero, dg_hi0 (Nat.le_refl _), Nat.zero_mod]
      refine S2.Hv (r := 3) (by decide) ?_
      exact ⟨by rw [nd_0]; exact uA_same, by rw [nd_0]; omega, fun k hk => by rw [nd_0] at hk; omega⟩
/-! ===== rounding ===== -/
def bI (b : Bool) : Int32 := if b = true then 1 else 0
/-- whether a cut with something left goes up -/
def rUp (neg : Bool) (m : Int32) (q r y : Nat) : Bool :=
  if m = 99 then !neg else if m = 101 then decide (y < r + r ∨ (r + r = y ∧ q % 2 = 1)) else if m = 102 then neg else if m = 104 then decide (y ≤ r + r) else if m = 108 then decide (y < r + r) else decide (m = 117)
def rq (neg : Bool) (m : Int32) (x y : Nat) : Nat := if x % y ≠ 0 ∧ rUp neg m (x / y) (x % y) y = true then x / y + 1 else x / y
/-- the same but for scratch: rows, and whether it was refused -/
def Sc (M M' : MS) : Prop := (∀ k, k ≠ 2 → M'.1 k = M.1 k) ∧ (∀ k, k ≠ 0 → k ≠ 1 → M'.2.1 k = M.2.1 k) ∧ M'.2.2 = M.2.2
theorem Sc.rf {M : MS} : Sc M M := ⟨fun _ _ => rfl, fun _ _ _ => rfl, rfl⟩
theorem Sc.tr {M M' M'' : MS} (h : Sc M M') (h' : Sc M' M'') : Sc M M'' := ⟨fun k hk => (h'.1 k hk).trans (h.1 k hk), fun k a b => (h'.2.1 k a b).trans (h.2.1 k a b), h'.2.2.trans h.2.2⟩
theorem Sf.sc {rs : List Nat} {M M' : MS} (h : Sf rs M M') : Sc M M' := ⟨fun k _ => by rw [h.1], h.2.2.1, h.2.1⟩
theorem Sc.ui {M : MS} {v : Int32} : Sc M (uI M 2 v) := ⟨fun k hk => va_up_ne _ _ hk, fun _ _ _ => rfl, rfl⟩
theorem m_rounds_43 {N : Nat} {σ : Sto} {a0 q r y : Nat} {neg : Bool} {m : Int32} : b_X12_rounds_43 N σ a0 (bI neg) m (iI (cmpN (r + r) y)) (bI (decide (q % 2 = 1))) = b_X12_rounds_216 N σ a0 m (bI (rUp neg m q r y)) := by
  unfold b_X12_rounds_43 rUp b_X12_rounds_203 b_X12_rounds_207 b_X12_rounds_208 b_X12_rounds_213 b_X12_rounds_171 b_X12_rounds_185 b_X12_rounds_151
  by_cases h99 : m = 99
  · rw [if_pos h99, if_pos h99]
    cases neg <;> simp [bI]
  rw [if_neg h99, if_neg h99]
  by_cases h101 : m = 101
  · rw [if_pos h101, if_pos h101]
    rcases cmpN_v (r + r) y with ⟨h, e⟩ | ⟨h, e⟩ | ⟨h, e⟩
    · rw [e, if_neg (by decide), if_neg (by decide), decide_eq_false (by omega)]
      rfl
    · rw [e, if_neg (by decide), if_pos (by decide)]
      by_cases hq : q % 2 = 1
      · rw [decide_eq_true hq, decide_eq_true (Or.inr ⟨h, hq⟩), if_neg (by decide)]
        rfl
      · rw [decide_eq_false hq, decide_eq_false (by omega), if_pos (by decide)]
        rfl
    · rw [e, if_pos (by decide), decide_eq_true (Or.inl h)]
      rfl
  rw [if_neg h101, if_neg h101]
  by_cases h102 : m = 102
  · rw [if_pos h102, if_pos h102]
  rw [if_neg h102, if_neg h102]
  by_cases h104 : m = 104
  · rw [if_pos h104, if_pos h104]
    rcases cmpN_v (r + r) y with ⟨h, e⟩ | ⟨h, e⟩ | ⟨h, e⟩
    · rw [e, if_pos (by decide), decide_eq_false (by omega)]
      rfl
    · rw [e, if_neg (by decide), decide_eq_true (by omega)]
      rfl
    · rw [e, if_neg (by decide), decide_eq_true (by omega)]
      rfl
  rw [if_neg h104, if_neg h104]
  by_cases h108 : m = 108
  · rw [if_pos h108, if_pos h108]
    rcases cmpN_v (r + r) y with ⟨h, e⟩ | ⟨h, e⟩ | ⟨h, e⟩
    · rw [e, if_pos (by decide), decide_eq_false (by omega)]
      rfl
    · rw [e, if_pos (by decide), decide_eq_false (by omega)]
      rfl
    · rw [e, if_neg (by decide), decide_eq_true h]
      rfl
  rw [if_neg h108, if_neg h108]
  by_cases h117 : m = 117
  · rw [if_pos h117, decide_eq_true h117]
    rfl
  · rw [if_neg h117, decide_eq_false h117]
    rfl
theorem m_rounds_216 {mb : Nat} {M : MS} {σ : Sto} {q r N : Nat} {m : Int32} {up : Bool} (hq : Hv M 2 q) (hr : Hv M 3 r) (h1 : nd q ≤ 239) (hb : M.1 2 = 0 ∨ M.1 2 = 1) (hN : 600 ≤ N) :
    ∃ M', b_X12_rounds_216 N (ov mb M σ) mb m (bI up) = some ((), ov mb M' σ) ∧ Sc M M' ∧ M'.1 2 = (if r ≠ 0 ∧ m = 110 then 1 else M.1 2) ∧ Hv M' 2 (if r ≠ 0 ∧ up = true then q + 1 else q) := by
  obtain ⟨s1, s2⟩ := rI (show 3 < 10 by decide)
  have h240 := hr.2.1
  unfold b_X12_rounds_216
  rw [iI_lit 3]
  simp only [oR_1, oA_1, oI_2, Option.bind_some, s1, s2, if_true, hr.1]
  by_cases h0 : r = 0
  · subst h0
    rw [nd_0, if_pos (by decide), if_neg (fun w => w.1 rfl), if_neg (fun w => w.1 rfl)]
    exact ⟨M, rfl, Sc.rf, rfl, hq⟩
  have hp : nd r ≠ 0 := by rw [nd_s h0]; omega
  rw [if_neg (iI_n0 (by omega) hp)]
  have key : ∀ v : Int32, v = (if r ≠ 0 ∧ m = 110 then 1 else M.1 2) → ∃ M', (isO (ov mb (uI M 2 v) σ) mb 11).bind (fun _ => b2 (f_X12_lets N (ov mb (uI M 2 v) σ) mb 8 1) fun x4 τ5 => if bI up = 0 then some ((), τ5) else (isO τ5 mb 11).bind fun _ => b2 (f_X12_plus N τ5 mb 2 8) fun x8 τ9 => some ((), τ9)) = some ((), ov mb M' σ) ∧ Sc M M' ∧ M'.1 2 = (if r ≠ 0 ∧ m = 110 then 1 else M.1 2) ∧ Hv M' 2 (if r ≠ 0 ∧ up = true then q + 1 else q) := by
    intro v hv
    rw [ov_isO, Option.bind_some]
    obtain ⟨M1, a1, a2, a3⟩ := m_lets (mb := mb) (M := uI M 2 v) (σ := σ) (r := 8) (z := 1) (N := N) (by decide) ⟨by decide, by decide⟩ (by omega)
    have hq1 : Hv M1 2 q := a2.Hv (r := 2) (by decide) hq
    have e1 : f_X12_lets N (ov mb (uI M 2 v) σ) mb 8 1 = some ((), ov mb M1 σ) := a1
    have c1 : Sc M M1 := Sc.ui.tr a2.sc
    have c2 : M1.1 2 = v := by rw [a2.1]; show va_up M.1 2 v 2 = v; exact va_up_self _ _ _
    rw [e1]
    cases up with
    | false =>
      refine ⟨M1, rfl, c1, by rw [c2, hv], ?_⟩
      rw [if_neg (fun w => by cases w.2)]
      exact hq1
    | true =>
      obtain ⟨M2, b1, b2', b3'⟩ := m_plus (mb := mb) (M := M1) (σ := σ) (a := 2) (b := 8) (N := N) (by decide) (by decide) (by decide) hq1 a3 h1 (nd_le.mp (by decide)) (by omega)
      have e2 : f_X12_plus N (ov mb M1 σ) mb 2 8 = some ((), ov mb M2 σ) := b1
      refine ⟨M2, ?_, c1.tr b2'.sc, by rw [b2'.1, c2, hv], ?_⟩
      · show (isO (ov mb M1 σ) mb 11).bind _ = _
        rw [ov_isO, Option.bind_some, e2]
        rfl
      · rw [if_pos ⟨h0, rfl⟩]
        exact b3'
  by_cases hm : m = 110
  · rw [if_pos hm]
    unfold b_X12_rounds_242
    have e : M.1 2 ||| 1 = (1 : Int32) := by rcases hb with h | h <;> rw [h] <;> rfl
    rw [e, if_pos (by decide), oP_2, Option.bind_some]
    exact key 1 (by rw [if_pos ⟨h0, hm⟩])
  · rw [if_neg hm]
    unfold b_X12_rounds_242
    have e : M.1 2 ||| 0 = M.1 2 := by rcases hb with h | h <;> rw [h] <;> rfl
    have e2 : okZ (M.1 2) = true := by rcases hb with h | h <;> rw [h] <;> decide
    rw [e, if_pos e2, oP_2, Option.bind_some]
    exact key (M.1 2) (by rw [if_neg (fun w => hm w.2)])
theorem m_rounds {mb : Nat} {M : MS} {σ : Sto} {x y N : Nat} {neg : Bool} {m : Int32} (hx : Hv M 0 x) (hy : Hv M 1 y) (hy0 : 0 < y) (h1 : nd x ≤ 239) (h2 : nd y ≤ 230) (hb : M.1 2 = 0 ∨ M.1 2 = 1) (hN : 600 ≤ N) :
    ∃ M', f_X12_rounds N (ov mb M σ) mb (bI neg) m = some ((), ov mb M' σ) ∧ Sc M M' ∧ M'.1 2 = (if x % y ≠ 0 ∧ m = 110 then 1 else M.1 2) ∧ Hv M' 2 (rq neg m x y) := by
  have lr : x % y < y := Nat.mod_lt _ hy0
  have nr : nd (x % y) ≤ nd y := nd_mono (by omega)
  have nq : nd (x / y) ≤ nd x := nd_mono (Nat.div_le_self x y)
  obtain ⟨M1, a1, a2, a3, a4⟩ := m_divides (mb := mb) (σ := σ) hx hy hy0 h1 h2 hN
  obtain ⟨M2, b1, b2', b3'⟩ := m_copies (mb := mb) (M := M1) (σ := σ) (f := 3) (t := 9) (N := N) (by decide) (by decide) (by decide) a4 (by omega)
  have r2 := b2'.Hv (r := 3) (by decide) a4
  obtain ⟨M3, c1, c2, c3⟩ := m_plus (mb := mb) (M := M2) (σ := σ) (a := 9) (b := 3) (N := N) (by decide) (by decide) (by decide) b3' r2 (by omega) (by omega) (by omega)
  have y3 := c2.Hv (r := 1) (by decide) (b2'.Hv (r := 1) (by decide) (a2.Hv (r := 1) (by decide) hy))
  have q3 := c2.Hv (r := 2) (by decide) (b2'.Hv (r := 2) (by decide) a3)
  have r3 := c2.Hv (r := 3) (by decide) r2
  have s3 : Sc M M3 := (a2.sc.tr b2'.sc).tr c2.sc
  have f3 : M3.1 2 = M.1 2 := by rw [c2.1, b2'.1, a2.1]
  obtain ⟨M4, d1, d2, d3, d4⟩ := m_rounds_216 (mb := mb) (M := M3) (σ := σ) (m := m) (up := rUp neg m (x / y) (x % y) y) (N := N) q3 r3 (by omega) (by rw [f3]; exact hb) (by omega)
  refine ⟨M4, ?_, s3.tr d2, by rw [d3, f3], d4⟩
  have dig : f_X12_digit (ov mb M3 σ) mb 2 0 = some (iI ((x / y % 10 : Nat) : Int)) := by
    have := m_digit (mb := mb) (σ := σ) (r := 2) (k := 0) (by decide) (by decide) q3
    rw [Nat.pow_zero, Nat.div_one] at this
    exact this
  have par : (if iI ((x / y % 10 : Nat) : Int) - iI ((x / y % 10 : Nat) : Int) / 2 * 2 = (1 : Int32) then b_X12_rounds_43 N (ov mb M3 σ) mb (bI neg) m (iI (cmpN (x % y + x % y) y)) 1 else b_X12_rounds_43 N (ov mb M3 σ) mb (bI neg) m (iI (cmpN (x % y + x % y) y)) 0) = b_X12_rounds_43 N (ov mb M3 σ) mb (bI neg) m (iI (cmpN (x % y + x % y) y)) (bI (decide (x / y % 2 = 1))) := by
    have l : x / y % 10 < 10 := Nat.mod_lt _ (by decide)
    rw [iI_lit 2, jI_md (by omega) (by omega)]
    by_cases h : x / y % 2 = 1
    · rw [if_pos (by rw [iI_lit 1, jI_eq (by omega) (by omega)]; omega), decide_eq_true h]
      rfl
    · rw [if_neg (fun w => by rw [iI_lit 1, jI_eq (by omega) (by omega)] at w; omega), decide_eq_false h]
      rfl
  have cmp : f_X12_compares N (ov mb M3 σ) mb 9 1 = some (iI (cmpN (x % y + x % y) y)) := m_compares (a := 9) (b := 1) (by decide) (by decide) c3 y3 (by omega)
  have cp : f_X12_copies N (ov mb M1 σ) mb 3 9 = some ((), ov mb M2 σ) := b1
  have ps : f_X12_plus N (ov mb M2 σ) mb 9 3 = some ((), ov mb M3 σ) := c1
  unfold f_X12_rounds
  rw [ov_isO, Option.bind_some, a1]
  show (isO (ov mb M1 σ) mb 11).bind _ = _
  rw [ov_isO, Option.bind_some, cp]
  show (isO (ov mb M2 σ) mb 11).bind _ = _
  rw [ov_isO, Option.bind_some, ps]
  show (isO (ov mb M3 σ) mb 11).bind _ = _
  rw [ov_isO, Option.bind_some, cmp, Option.bind_some, dig, Option.bind_some, par, m_rounds_43]
  exact d1
