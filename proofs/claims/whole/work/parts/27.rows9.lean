/-! ===== products of rows; what number a row holds ===== -/
theorem lp_fam {κ α β ζ : Type} {F : κ → (α → Option β) → α → Option β} {G : κ → ζ → Option β} {n : Nat} {Inv : Nat → α → Prop} {Post : ζ → Prop} (hs : ∀ k a, k < n → Inv k a → ∃ a', Inv (k + 1) a' ∧ ∀ (c : κ) (K : α → Option β), F c K a = K a') (he : ∀ a, Inv n a → ∃ z, Post z ∧ ∀ (c : κ) (K : α → Option β), F c K a = G c z) : ∀ (N k : Nat) (a : α), k ≤ n → n < N + k → Inv k a → ∃ z, Post z ∧ ∀ c, lp (F c) N a = G c z := by
  intro N
  induction N with
  | zero => intro k a h1 h2; omega
  | succ N ih =>
    intro k a h1 h2 hI
    by_cases h : k = n
    · subst h
      obtain ⟨z, hz, h3⟩ := he a hI
      exact ⟨z, hz, fun c => by rw [lp_s]; exact h3 c _⟩
    · obtain ⟨a', h3, h4⟩ := hs k a (by omega) hI
      obtain ⟨z, hz, h5⟩ := ih (k + 1) a' (by omega) (by omega) h3
      exact ⟨z, hz, fun c => by rw [lp_s, h4]; exact h5 c⟩
/-- the carry of a product by a digit -/
def mcar (d y k : Nat) : Nat := d * (y % 10 ^ k) / 10 ^ k
theorem mul_div (d y k : Nat) : d * y / 10 ^ k = d * (y / 10 ^ k) + mcar d y k := by
  unfold mcar
  have hy := Nat.div_add_mod y (10 ^ k)
  have e : d * y = 10 ^ k * (d * (y / 10 ^ k)) + d * (y % 10 ^ k) := by
    rw [Nat.mul_left_comm, ← Nat.mul_add, hy]
  rw [e, Nat.mul_add_div (pow10_pos k)]
theorem mcar_s (d y k : Nat) : mcar d y (k + 1) = (mcar d y k + d * (y / 10 ^ k % 10)) / 10 ∧ d * y / 10 ^ k % 10 = (mcar d y k + d * (y / 10 ^ k % 10)) % 10 := by
  have h1 := mul_div d y k
  have h2 := mul_div d y (k + 1)
  rw [Nat.pow_succ, ← Nat.div_div_eq_div_mul, ← Nat.div_div_eq_div_mul] at h2
  have h3 : d * (y / 10 ^ k) = 10 * (d * (y / 10 ^ k / 10)) + d * (y / 10 ^ k % 10) := by
    rw [Nat.mul_left_comm, ← Nat.mul_add, Nat.div_add_mod]
  generalize mcar d y k = c at *
  generalize mcar d y (k + 1) = c' at *
  generalize d * y / 10 ^ k = S at *
  generalize d * (y / 10 ^ k) = A at *
  generalize d * (y / 10 ^ k / 10) = B at *
  generalize d * (y / 10 ^ k % 10) = C at *
  omega
theorem mcar_lt {d y k : Nat} (h : d < 10) : mcar d y k < 10 := by
  unfold mcar
  have l : y % 10 ^ k < 10 ^ k := Nat.mod_lt _ (pow10_pos k)
  refine (Nat.div_lt_iff_lt_mul (pow10_pos k)).mpr ?_
  have : d * (y % 10 ^ k) ≤ 9 * (y % 10 ^ k) := Nat.mul_le_mul_right _ (by omega)
  omega
theorem mcar_0 (d y : Nat) : mcar d y 0 = 0 := by simp [mcar, Nat.mod_one]
theorem mcar_hi {d y k : Nat} (h : d < 10) (hy : nd y ≤ k) : mcar d y (k + 1) = 0 := by
  have h1 := (mcar_s d y k).1
  have h2 := @mcar_lt d y k h
  rw [h1, dg_hi0 hy]
  omega
def tl (d y : Nat) : Nat := if mcar d y (nd y) = 0 then nd y else nd y + 1
theorem tl_ge (d y : Nat) : nd y ≤ tl d y ∧ tl d y ≤ nd y + 1 := by
  unfold tl
  by_cases h : mcar d y (nd y) = 0
  · rw [if_pos h]; omega
  · rw [if_neg h]; omega
theorem tl_in {d y k : Nat} (hk : k < tl d y) : k < nd y ∨ k = nd y ∧ mcar d y k ≠ 0 := by
  unfold tl at hk
  by_cases h : mcar d y (nd y) = 0
  · rw [if_pos h] at hk; exact Or.inl hk
  · rw [if_neg h] at hk
    by_cases h2 : k < nd y
    · exact Or.inl h2
    · have e : k = nd y := by omega
      exact Or.inr ⟨e, by rw [e]; exact h⟩
theorem mcar_tl {d y : Nat} (h : d < 10) : mcar d y (tl d y) = 0 := by
  unfold tl
  by_cases h0 : mcar d y (nd y) = 0
  · rw [if_pos h0]; exact h0
  · rw [if_neg h0]; exact mcar_hi h (Nat.le_refl _)
theorem tl_lt {d y : Nat} (h : d < 10) : d * y < 10 ^ tl d y := by
  refine d0_lt ?_
  rw [mul_div, dg_hi0 (tl_ge d y).1, mcar_tl h]
  rfl
theorem nd_mul_dig {d y : Nat} (h : d < 10) : nd (d * y) ≤ nd y + 1 := by
  refine nd_le.mp (Nat.lt_of_lt_of_le (tl_lt h) (Nat.pow_le_pow_right (by decide) ?_))
  exact (tl_ge d y).2
theorem nd_mul (x y : Nat) : nd (x * y) ≤ nd x + nd y := by
  refine nd_le.mp ?_
  rw [Nat.pow_add]
  exact Nat.mul_lt_mul'' (lt_pw (Nat.le_refl _)) (lt_pw (Nat.le_refl _))
theorem m_times_50 {mb : Nat} {M : MS} {σ : Sto} {a b x y k i N : Nat} {K1 : Sto × Nat × Int32 × Int32 × Int32 → Option (Unit × Sto)} (ha : a < 10) (hb : b < 10) (hk : k < 240) (hi : i < 240) (hx : Hv M a x) (hy : Hv M b y) (hm : M.2.1 1 6 = iI i) (K : Sto × Nat × Int32 × Int32 × Int32 × Int32 × Int32 → Option (Unit × Sto)) :
    b_X12_times_50 N K1 K (ov mb M σ) mb (iI a) (iI b) (iI k) (iI (mcar (x / 10 ^ k % 10) y i : Nat)) (iI i) = K (ov mb (uA (uA M 0 (240 * 6 + i) (iI ((x / 10 ^ k % 10 * y / 10 ^ i % 10 : Nat) : Int))) 1 6 (iI (i + 1 : Nat))) σ, mb, iI a, iI b, iI k, iI (mcar (x / 10 ^ k % 10) y (i + 1) : Nat), iI ((i + 1 : Nat) : Int)) := by
  have l1 : x / 10 ^ k % 10 < 10 := Nat.mod_lt _ (by decide)
  have l2 : y / 10 ^ i % 10 < 10 := Nat.mod_lt _ (by decide)
  have l3 := @mcar_lt (x / 10 ^ k % 10) y i l1
  have s := mcar_s (x / 10 ^ k % 10) y i
  have l4 : x / 10 ^ k % 10 * (y / 10 ^ i % 10) ≤ 9 * 9 := Nat.mul_le_mul (by omega) (by omega)
  unfold b_X12_times_50
  rw [ov_isO, Option.bind_some, m_digit ha hk hx, Option.bind_some, m_digit hb hi hy, Option.bind_some, jI_mul, jI_add]
  simp only [lt_]
  rw [iI_lit 10, jI_md (by omega) (by omega), jI_dv (by omega) (by omega), jI_s, ← s.2, ← s.1, iI_lit 6, m_adds_raw (r := 6) (by decide) hi hm]
  rfl
theorem m_times_34 {mb : Nat} {M0 : MS} {σ : Sto} {a b x y k N : Nat} (ha : a < 6) (hb : b < 6) (hk : k < nd x) (hx : Hv M0 a x) (hy : Hv M0 b y) (hxy : nd x + nd y ≤ 200) (hN : 600 ≤ N) (hm : M0.2.1 1 6 = iI (0 : Nat)) (hs : Hv M0 7 (x % 10 ^ k * y)) :
    ∃ M', (Sf [6, 7] M0 M' ∧ Hv M' 7 (x % 10 ^ (k + 1) * y)) ∧ ∀ K1 : Sto × Nat × Int32 × Int32 × Int32 → Option (Unit × Sto), b_X12_times_34 N K1 (ov mb M0 σ) mb (iI a) (iI b) (iI k) 0 0 = K1 (ov mb M' σ, mb, iI a, iI b, iI ((k + 1 : Nat) : Int)) := by
  have l1 : x / 10 ^ k % 10 < 10 := Nat.mod_lt _ (by decide)
  obtain ⟨g1, g2⟩ := rI (show b < 10 by omega)
  have t1 := tl_ge (x / 10 ^ k % 10) y
  unfold b_X12_times_34
  rw [iI_lit 0]
  refine lp_fam (F := fun (K1 : Sto × Nat × Int32 × Int32 × Int32 → Option (Unit × Sto)) k e => b_X12_times_34_body N K1 k e.1 e.2.1 e.2.2.1 e.2.2.2.1 e.2.2.2.2.1 e.2.2.2.2.2.1 e.2.2.2.2.2.2) (G := fun K1 M' => K1 (ov mb M' σ, mb, iI a, iI b, iI ((k + 1 : Nat) : Int))) (Post := fun M' => Sf [6, 7] M0 M' ∧ Hv M' 7 (x % 10 ^ (k + 1) * y)) (n := tl (x / 10 ^ k % 10) y) (Inv := fun i e => ∃ M1, e = (ov mb M1 σ, mb, iI a, iI b, iI (k : Nat), iI (mcar (x / 10 ^ k % 10) y i : Nat), iI (i : Nat)) ∧ Sf [6] M0 M1 ∧ M1.2.1 1 6 = iI (i : Nat) ∧ (∀ j, j < i → M1.2.1 0 (240 * 6 + j) = iI ((x / 10 ^ k % 10 * y / 10 ^ j % 10 : Nat) : Int))) ?_ ?_ N 0 _ (Nat.zero_le _) (by omega) ?_
  · rintro i _ hi ⟨M1, rfl, i1, i2, i3⟩
    have hx1 := i1.Hv (r := a) (by simp; omega) hx
    have hy1 := i1.Hv (r := b) (by simp; omega) hy
    refine ⟨(ov mb (uA (uA M1 0 (240 * 6 + i) (iI ((x / 10 ^ k % 10 * y / 10 ^ i % 10 : Nat) : Int))) 1 6 (iI (i + 1 : Nat))) σ, mb, iI a, iI b, iI k, iI (mcar (x / 10 ^ k % 10) y (i + 1) : Nat), iI ((i + 1 : Nat) : Int)), ⟨_, rfl, (i1.tr (Sf.dig (r := 6) (j := i) (by omega))).tr Sf.many, uA_same, fun j hj => ?_⟩, fun K1 K => ?_⟩
    · rw [uA_nk (by decide)]
      by_cases hji : j = i
      · subst hji; rw [uA_same]
      · rw [uA_ne (by omega)]
        exact i3 j (by omega)
    · dsimp only
      unfold b_X12_times_34_body
      simp only [oR_1, oA_1, Option.bind_some, g1, g2, if_true, hy1.1]
      rcases tl_in hi with q | q
      · rw [if_pos ((jI_lt (by omega) (by omega)).mpr q)]
        exact m_times_50 (by omega) (by omega) (by omega) (by omega) hx1 hy1 i2 K
      · have := @mcar_lt (x / 10 ^ k % 10) y i l1
        rw [if_neg (fun w => by rw [jI_lt (by omega) (by omega)] at w; omega), if_neg (fun w => by rw [iI_lit 0, jI_le (by omega) (by omega)] at w; omega)]
        exact m_times_50 (by omega) (by omega) (by omega) (by omega) hx1 hy1 i2 K
  · rintro _ ⟨M1, rfl, i1, i2, i3⟩
    have hx1 := i1.Hv (r := a) (by simp; omega) hx
    have hy1 := i1.Hv (r := b) (by simp; omega) hy
    have hs1 := i1.Hv (r := 7) (by decide) hs
    obtain ⟨M2, a1, a2, a3⟩ := m_trims (mb := mb) (M := M1) (σ := σ) (r := 6) (v := x / 10 ^ k % 10 * y) (n := tl (x / 10 ^ k % 10) y) (N := N) (by decide) (by omega) (by omega) i2 i3 (tl_lt l1)
    have hz : nd (x / 10 ^ k % 10 * y) ≤ nd y + 1 := nd_mul_dig l1
    obtain ⟨M3, b1, b2', b3'⟩ := m_shifts (mb := mb) (M := M2) (σ := σ) (r := 6) (v := x / 10 ^ k % 10 * y) (z := (k : Int)) (N := N) (by decide) ⟨by omega, by omega⟩ a3 (Or.inr (by omega)) (by omega)
    rw [Int.toNat_natCast] at b3'
    have hs3 := b2'.Hv (r := 7) (by decide) (a2.Hv (r := 7) (by decide) hs1)
    have l5 : nd (x % 10 ^ k * y) ≤ 239 := by
      have h1 := nd_mul (x % 10 ^ k) y
      have h2 := nd_mono (Nat.mod_le x (10 ^ k))
      omega
    have l6 : nd (x / 10 ^ k % 10 * y * 10 ^ k) ≤ 239 := by
      have h1 := nd_mul (x / 10 ^ k % 10 * y) (10 ^ k)
      have h2 : nd (10 ^ k) ≤ k + 1 := nd_le.mp (by rw [Nat.pow_succ]; have := pow10_pos k; omega)
      omega
    obtain ⟨M4, c1, c2, c3⟩ := m_plus (mb := mb) (M := M3) (σ := σ) (a := 7) (b := 6) (N := N) (by decide) (by decide) (by decide) hs3 b3' l5 l6 (by omega)
    refine ⟨M4, ⟨?_, ?_⟩, fun K1 K => ?_⟩
    · exact ((((i1.mono (by simp)).tr (a2.mono (by simp))).tr (b2'.mono (by simp))).tr (c2.mono (by simp)))
    · have e : x % 10 ^ (k + 1) * y = x % 10 ^ k * y + x / 10 ^ k % 10 * y * 10 ^ k := by
        rw [mod_s, Nat.add_mul, Nat.mul_assoc, Nat.mul_comm (10 ^ k)]
      rw [e]
      exact c3
    · dsimp only
      unfold b_X12_times_34_body
      simp only [oR_1, oA_1, Option.bind_some, g1, g2, if_true, hy1.1]
      rw [if_neg (fun w => by rw [jI_lt (by omega) (by omega)] at w; omega), if_pos (by rw [mcar_tl l1, iI_lit 0]; exact Int32.le_refl _)]
      rw [ov_isO, Option.bind_some, iI_lit 6, iI_lit 7, a1]
      show (isO (ov mb M2 σ) mb 11).bind _ = _
      rw [ov_isO, Option.bind_some, b1]
      show (isO (ov mb M3 σ) mb 11).bind _ = _
      rw [ov_isO, Option.bind_some, c1]
      show K1 _ = _
      rw [jI_s]
  · exact ⟨M0, by rw [mcar_0], Sf.rf, hm, fun j hj => absurd hj (by omega)⟩
theorem m_times {mb : Nat} {M : MS} {σ : Sto} {a b x y N : Nat} (ha : a < 6) (hb : b < 6) (hab : a ≠ b) (hx : Hv M a x) (hy : Hv M b y) (hxy : nd x + nd y ≤ 200) (hN : 600 ≤ N) :
    ∃ M', f_X12_times N (ov mb M σ) mb (iI a) (iI b) = some ((), ov mb M' σ) ∧ Sf [a, 6, 7] M M' ∧ Hv M' a (x * y) := by
  obtain ⟨f1, f2⟩ := rI (show a < 10 by omega)
  obtain ⟨s1, s2⟩ := rI (show 7 < 10 by decide)
  obtain ⟨q1, q2⟩ := rI (show 6 < 10 by decide)
  unfold f_X12_times
  rw [iI_lit 7]
  simp only [oR_1, oS_1, Option.bind_some, s1, s2, if_true]
  unfold b_X12_times_10
  rw [iI_lit 0]
  refine lp_ex (n := nd x) (Inv := fun k e => ∃ M1, e = (ov mb M1 σ, mb, iI a, iI b, iI (k : Nat)) ∧ Sf [6, 7] M M1 ∧ Hv M1 7 (x % 10 ^ k * y)) (Post := fun o => ∃ M', o = some ((), ov mb M' σ) ∧ Sf [a, 6, 7] M M' ∧ Hv M' a (x * y)) ?_ ?_ N 0 _ (Nat.zero_le _) (by omega) ?_
  · rintro k _ hk ⟨M1, rfl, i1, i2⟩
    have hx1 := i1.Hv (r := a) (by simp; omega) hx
    have hy1 := i1.Hv (r := b) (by simp; omega) hy
    have S6 : Sf [6] M1 (uA M1 1 6 (iI (0 : Nat))) := Sf.many
    obtain ⟨M2, ⟨k2, k3⟩, k1⟩ := m_times_34 (mb := mb) (M0 := uA M1 1 6 (iI (0 : Nat))) (σ := σ) (k := k) (N := N) ha hb hk (S6.Hv (by simp; omega) hx1) (S6.Hv (by simp; omega) hy1) hxy hN uA_same (S6.Hv (by decide) i2)
    refine ⟨_, ⟨M2, rfl, i1.tr ((S6.mono (by simp)).tr k2), k3⟩, fun K => ?_⟩
    dsimp only
    unfold b_X12_times_10_body
    simp only [oR_1, oA_1, Option.bind_some, f1, f2, if_true, hx1.1]
    rw [if_neg (fun w => by rw [jI_le (by omega) (by omega)] at w; omega), iI_lit 6]
    simp only [oS_1, Option.bind_some, q1, q2, if_true]
    exact k1 K
  · rintro _ ⟨M1, rfl, i1, i2⟩ K
    have hx1 := i1.Hv (r := a) (by simp; omega) hx
    dsimp only
    unfold b_X12_times_10_body
    simp only [oR_1, oA_1, Option.bind_some, f1, f2, if_true, hx1.1]
    rw [if_pos (Int32.le_refl _), ov_isO, Option.bind_some, iI_lit 7]
    rw [Nat.mod_eq_of_lt (lt_pw (Nat.le_refl _))] at i2
    have h240 := i2.2.1
    obtain ⟨M2, a1, a2, a3⟩ := m_copies (mb := mb) (M := M1) (σ := σ) (f := 7) (t := a) (N := N) (by decide) (by omega) (by omega) i2 (by omega)
    rw [a1]
    exact ⟨M2, rfl, (i1.mono (by simp)).tr (a2.mono (by simp)), a3⟩
  · refine ⟨_, rfl, Sf.many.mono (by simp), ?_⟩
    rw [Nat.pow_zero, Nat.mod_one, Nat.zero_mul]
    exact ⟨by rw [nd_0]; exact uA_same, by rw [nd_0]; omega, fun k hk => by rw [nd_0] at hk; omega⟩
theorem m_value_loop {mb : Nat} {M : MS} {σ : Sto} {a x N : Nat} (ha : a < 10) (hx : Hv M a x) (hN : 300 ≤ N) : f_X12_value N (ov mb M σ) mb (iI a) = some (iL (x : Nat)) := by
  obtain ⟨f1, f2⟩ := rI ha
  have h240 := hx.2.1
  unfold f_X12_value
  simp only [oR_1, oA_1, Option.bind_some, f1, f2, if_true, hx.1, lt_]
  unfold b_X12_value_12
  have key := lp_for (F := fun k (e : Sto × Nat × Int32 × Int64 × Int32) => b_X12_value_12_body N k e.1 e.2.1 e.2.2.1 e.2.2.2.1 e.2.2.2.2) (n := nd x) (st := fun j => (ov mb M σ, mb, iI a, iL ((x / 10 ^ (nd x - j) : Nat) : Int), iI ((nd x : Int) - 1 - j))) (r := some (iL (x : Nat))) ?_ ?_ N 0 (Nat.zero_le _) (by omega)
  · simp only [Nat.sub_zero, dg_hi0 (Nat.le_refl _)] at key
    rw [iI_lit 1, iI_sub, iL_lit 0]
    refine Eq.trans ?_ key
    congr 6
    omega
  · intro j hj K
    dsimp only
    unfold b_X12_value_12_body
    rw [if_neg (fun q => by rw [iI_lit 0, iI_lt ⟨by omega, by omega⟩ ⟨by decide, by decide⟩] at q; omega), ov_isO, Option.bind_some]
    have e : (nd x : Int) - 1 - (j : Nat) = ((nd x - (j + 1) : Nat) : Int) := by omega
    have l1 : x / 10 ^ (nd x - (j + 1)) % 10 < 10 := Nat.mod_lt _ (by decide)
    have d := dig_s x (nd x - (j + 1))
    rw [show nd x - (j + 1) + 1 = nd x - j by omega] at d
    rw [e, m_digit ha (by omega) hx, Option.bind_some]
    simp only [lt_]
    rw [iI_iL ⟨by omega, by omega⟩, iL_lit 10, jL_mul, jL_add, ← d, iI_lit 1, iI_neg, iI_add]
    congr 6
    omega
  · intro K
    dsimp only
    unfold b_X12_value_12_body
    rw [if_pos (by rw [iI_lit 0, iI_lt ⟨by omega, by omega⟩ ⟨by decide, by decide⟩]; omega), Nat.sub_self, Nat.pow_zero, Nat.div_one]
