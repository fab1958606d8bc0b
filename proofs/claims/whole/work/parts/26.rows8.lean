/-! ===== loops by their steps; sums of rows ===== -/
theorem lp_for {α β : Type} {F : (α → Option β) → α → Option β} {n : Nat} {st : Nat → α} {r : Option β} (hs : ∀ k, k < n → ∀ K : α → Option β, F K (st k) = K (st (k + 1))) (he : ∀ K : α → Option β, F K (st n) = r) : ∀ (N k : Nat), k ≤ n → n < N + k → lp F N (st k) = r := by
  intro N
  induction N with
  | zero => intro k h1 h2; omega
  | succ N ih =>
    intro k h1 h2
    rw [lp_s]
    by_cases h : k = n
    · subst h; exact he _
    · rw [hs k (by omega)]
      exact ih (k + 1) (by omega) (by omega)
theorem lp_ex {α β : Type} {F : (α → Option β) → α → Option β} {n : Nat} {Inv : Nat → α → Prop} {Post : Option β → Prop} (hs : ∀ k a, k < n → Inv k a → ∃ a', Inv (k + 1) a' ∧ ∀ K : α → Option β, F K a = K a') (he : ∀ a, Inv n a → ∀ K : α → Option β, Post (F K a)) : ∀ (N k : Nat) (a : α), k ≤ n → n < N + k → Inv k a → Post (lp F N a) := by
  intro N
  induction N with
  | zero => intro k a h1 h2; omega
  | succ N ih =>
    intro k a h1 h2 hI
    rw [lp_s]
    by_cases h : k = n
    · subst h; exact he a hI _
    · obtain ⟨a', h3, h4⟩ := hs k a (by omega) hI
      rw [h4]
      exact ih (k + 1) a' (by omega) (by omega) h3
/-! small numbers -/
theorem jI_md {a b : Nat} (ha : a < 2147483648) (hb : b < 2147483648) : iI (a : Int) - iI (a : Int) / iI (b : Int) * iI (b : Int) = iI ((a % b : Nat) : Int) := by
  rw [iI_md ⟨by omega, by omega⟩ ⟨by omega, by omega⟩, Int.natCast_emod]
theorem jI_dv {a b : Nat} (ha : a < 2147483648) (hb : b < 2147483648) : iI (a : Int) / iI (b : Int) = iI ((a / b : Nat) : Int) := by
  rw [iI_dv ⟨by omega, by omega⟩ ⟨by omega, by omega⟩, Int.natCast_ediv]
theorem jI_add (a b : Nat) : iI (a : Int) + iI (b : Int) = iI ((a + b : Nat) : Int) := by rw [iI_add, Int.natCast_add]
theorem jI_mul (a b : Nat) : iI (a : Int) * iI (b : Int) = iI ((a * b : Nat) : Int) := by rw [iI_mul, Int.natCast_mul]
theorem jI_s (a : Nat) : iI (a : Int) + 1 = iI ((a + 1 : Nat) : Int) := by rw [iI_lit 1, jI_add]
theorem jI_p (a : Nat) : iI ((a + 1 : Nat) : Int) - 1 = iI (a : Int) := by
  rw [iI_lit 1, iI_sub]
  exact congrArg iI (by omega)
theorem jI_lt {a b : Nat} (ha : a < 2147483648) (hb : b < 2147483648) : iI (a : Int) < iI (b : Int) ↔ a < b := by
  rw [iI_lt ⟨by omega, by omega⟩ ⟨by omega, by omega⟩]; omega
theorem jI_le {a b : Nat} (ha : a < 2147483648) (hb : b < 2147483648) : iI (a : Int) ≤ iI (b : Int) ↔ a ≤ b := by
  rw [iI_le ⟨by omega, by omega⟩ ⟨by omega, by omega⟩]; omega
theorem jI_eq {a b : Nat} (ha : a < 2147483648) (hb : b < 2147483648) : iI (a : Int) = iI (b : Int) ↔ a = b := by
  rw [iI_eq ⟨by omega, by omega⟩ ⟨by omega, by omega⟩]; omega
theorem jL_md {a b : Nat} (ha : a < 9223372036854775808) (hb : b < 9223372036854775808) : iL (a : Int) - iL (a : Int) / iL (b : Int) * iL (b : Int) = iL ((a % b : Nat) : Int) := by
  rw [iL_md ⟨by omega, by omega⟩ ⟨by omega, by omega⟩, Int.natCast_emod]
theorem jL_dv {a b : Nat} (ha : a < 9223372036854775808) (hb : b < 9223372036854775808) : iL (a : Int) / iL (b : Int) = iL ((a / b : Nat) : Int) := by
  rw [iL_dv ⟨by omega, by omega⟩ ⟨by omega, by omega⟩, Int.natCast_ediv]
theorem jL_add (a b : Nat) : iL (a : Int) + iL (b : Int) = iL ((a + b : Nat) : Int) := by rw [iL_add, Int.natCast_add]
theorem jL_mul (a b : Nat) : iL (a : Int) * iL (b : Int) = iL ((a * b : Nat) : Int) := by rw [iL_mul, Int.natCast_mul]
theorem jL_lt {a b : Nat} (ha : a < 9223372036854775808) (hb : b < 9223372036854775808) : iL (a : Int) < iL (b : Int) ↔ a < b := by
  rw [iL_lt ⟨by omega, by omega⟩ ⟨by omega, by omega⟩]; omega
theorem jL_le {a b : Nat} (ha : a < 9223372036854775808) (hb : b < 9223372036854775808) : iL (a : Int) ≤ iL (b : Int) ↔ a ≤ b := by
  rw [iL_le ⟨by omega, by omega⟩ ⟨by omega, by omega⟩]; omega
theorem jL_eq {a b : Nat} (ha : a < 9223372036854775808) (hb : b < 9223372036854775808) : iL (a : Int) = iL (b : Int) ↔ a = b := by
  rw [iL_eq ⟨by omega, by omega⟩ ⟨by omega, by omega⟩]; omega
/-! how many digits a sum has -/
theorem lt_pw {x k : Nat} (h : nd x ≤ k) : x < 10 ^ k := nd_le.mpr h
theorem dg_hi0 {x k : Nat} (h : nd x ≤ k) : x / 10 ^ k = 0 := Nat.div_eq_of_lt (lt_pw h)
theorem d0_lt {x k : Nat} (h : x / 10 ^ k = 0) : x < 10 ^ k := by
  rcases Nat.div_eq_zero_iff.mp h with h | h
  · exact absurd h (Nat.pos_iff_ne_zero.mp (pow10_pos k))
  · exact h
theorem car_hi {x y k : Nat} (hx : nd x ≤ k) (hy : nd y ≤ k) : car x y (k + 1) = 0 := by
  rw [car_s, dg_hi0 hx, dg_hi0 hy]
  have := car_01 x y k
  omega
def mx (a b : Nat) : Nat := if a ≤ b then b else a
theorem mx_le (a b : Nat) : a ≤ mx a b ∧ b ≤ mx a b ∧ (mx a b = a ∨ mx a b = b) := by
  unfold mx
  by_cases h : a ≤ b
  · rw [if_pos h]; omega
  · rw [if_neg h]; omega
def pl (x y : Nat) : Nat := if car x y (mx (nd x) (nd y)) = 0 then mx (nd x) (nd y) else mx (nd x) (nd y) + 1
theorem pl_ge (x y : Nat) : mx (nd x) (nd y) ≤ pl x y ∧ pl x y ≤ mx (nd x) (nd y) + 1 := by
  unfold pl
  by_cases h : car x y (mx (nd x) (nd y)) = 0
  · rw [if_pos h]; omega
  · rw [if_neg h]; omega
theorem pl_in {x y k : Nat} (hk : k < pl x y) : k < mx (nd x) (nd y) ∨ k = mx (nd x) (nd y) ∧ car x y k = 1 := by
  unfold pl at hk
  by_cases h : car x y (mx (nd x) (nd y)) = 0
  · rw [if_pos h] at hk; exact Or.inl hk
  · rw [if_neg h] at hk
    by_cases h2 : k < mx (nd x) (nd y)
    · exact Or.inl h2
    · have e : k = mx (nd x) (nd y) := by omega
      refine Or.inr ⟨e, ?_⟩
      rw [e]
      exact (car_01 x y _).resolve_left h
theorem car_pl (x y : Nat) : car x y (pl x y) = 0 := by
  have := mx_le (nd x) (nd y)
  unfold pl
  by_cases h : car x y (mx (nd x) (nd y)) = 0
  · rw [if_pos h]; exact h
  · rw [if_neg h]; exact car_hi (by omega) (by omega)
theorem nd_plus (x y : Nat) : nd (x + y) = pl x y := by
  have h1 := pl_ge x y
  have h3 := mx_le (nd x) (nd y)
  have h2 : (x + y) / 10 ^ pl x y = 0 := by
    rw [add_div, dg_hi0 (by omega), dg_hi0 (by omega), car_pl]
  refine nd_eq (d0_lt h2) ?_
  by_cases h : car x y (mx (nd x) (nd y)) = 0
  · have e : pl x y = mx (nd x) (nd y) := by unfold pl; rw [if_pos h]
    rw [e]
    by_cases h0 : mx (nd x) (nd y) = 0
    · exact Or.inl h0
    · refine Or.inr ?_
      rcases h3.2.2 with h4 | h4
      · have := nd_lt.mp (show nd x - 1 < nd x by omega)
        rw [h4]; omega
      · have := nd_lt.mp (show nd y - 1 < nd y by omega)
        rw [h4]; omega
  · have e : pl x y = mx (nd x) (nd y) + 1 := by unfold pl; rw [if_neg h]
    refine Or.inr ?_
    rw [e, Nat.add_sub_cancel]
    refine Nat.not_lt.mp fun q => ?_
    have h5 := Nat.div_eq_of_lt q
    rw [add_div, dg_hi0 (by omega), dg_hi0 (by omega)] at h5
    omega
theorem nd_mono {x y : Nat} (h : x ≤ y) : nd x ≤ nd y := nd_le.mp (Nat.lt_of_le_of_lt h (lt_pw (Nat.le_refl _)))
theorem m_plus_85 {mb : Nat} {M : MS} {σ : Sto} {a k s N : Nat} {w v3 : Int32} (ha : a < 10) (hk : k < 240) (hs : s < 100) (K : Sto × Nat × Int32 × Int32 × Int32 × Int32 × Int32 → Option (Unit × Sto)) : b_X12_plus_85 N K (ov mb M σ) mb (iI a) w v3 (iI k) (iI s) = K (ov mb (uA M 0 (240 * a + k) (iI ((s % 10 : Nat) : Int))) σ, mb, iI a, w, v3, iI ((s / 10 : Nat) : Int), iI ((k + 1 : Nat) : Int)) := by
  obtain ⟨d1, d2, d3⟩ := rD (k := k) ha hk
  unfold b_X12_plus_85
  rw [iI_lit 10, jI_md (by omega) (by omega), jI_dv (by omega) (by omega), jI_s]
  simp only [oR_0, oS_0, Option.bind_some, d1, d2, d3, if_true, lt_]
theorem m_plus_48 {mb : Nat} {M0 M : MS} {σ : Sto} {a b x y k N : Nat} {v3 : Int32} (ha : a < 10) (hb : b < 10) (hab : a ≠ b) (hy : Hv M0 b y) (hx : nd x ≤ 239) (hk : k < 240) (hS : Sf [a] M0 M) (hm : M.2.1 1 a = iI (mx (nd x) k : Nat)) (hlo : ∀ j, j < k → M.2.1 0 (240 * a + j) = iI (((x + y) / 10 ^ j % 10 : Nat) : Int)) (hhi : ∀ j, k ≤ j → j < nd x → M.2.1 0 (240 * a + j) = iI ((x / 10 ^ j % 10 : Nat) : Int)) :
    ∃ M', (Sf [a] M0 M' ∧ M'.2.1 1 a = iI (mx (nd x) (k + 1) : Nat) ∧ (∀ j, j < k + 1 → M'.2.1 0 (240 * a + j) = iI (((x + y) / 10 ^ j % 10 : Nat) : Int)) ∧ ∀ j, k + 1 ≤ j → j < nd x → M'.2.1 0 (240 * a + j) = iI ((x / 10 ^ j % 10 : Nat) : Int)) ∧ ∀ K : Sto × Nat × Int32 × Int32 × Int32 × Int32 × Int32 → Option (Unit × Sto), b_X12_plus_48 N K (ov mb M σ) mb (iI a) (iI b) v3 (iI (car x y k : Nat)) (iI k) = K (ov mb M' σ, mb, iI a, iI b, v3, iI (car x y (k + 1) : Nat), iI ((k + 1 : Nat) : Int)) := by
  obtain ⟨f1, f2⟩ := rI ha
  have hyM := hS.Hv (by simpa using hab.symm) hy
  have h1 := mx_le (nd x) k
  have hd : (if mx (nd x) k ≤ k then (0 : Int32) else M.2.1 0 (240 * a + k)) = iI ((x / 10 ^ k % 10 : Nat) : Int) := by
    by_cases hc : mx (nd x) k ≤ k
    · rw [if_pos hc, dg_hi0 (by omega)]
      exact iI_lit 0
    · rw [if_neg hc]
      exact hhi k (Nat.le_refl _) (by omega)
  have l1 : x / 10 ^ k % 10 < 10 := Nat.mod_lt _ (by decide)
  have l2 : y / 10 ^ k % 10 < 10 := Nat.mod_lt _ (by decide)
  have l3 := car_01 x y k
  have e1 : car x y k + x / 10 ^ k % 10 + y / 10 ^ k % 10 = x / 10 ^ k % 10 + y / 10 ^ k % 10 + car x y k := by omega
  have fin : ∀ M1 : MS, Sf [a] M0 M1 → M1.2.1 1 a = iI (mx (nd x) (k + 1) : Nat) → (∀ j, j < k → M1.2.1 0 (240 * a + j) = iI (((x + y) / 10 ^ j % 10 : Nat) : Int)) → (∀ j, k + 1 ≤ j → j < nd x → M1.2.1 0 (240 * a + j) = iI ((x / 10 ^ j % 10 : Nat) : Int)) → (∀ K : Sto × Nat × Int32 × Int32 × Int32 × Int32 × Int32 → Option (Unit × Sto), b_X12_plus_48 N K (ov mb M σ) mb (iI a) (iI b) v3 (iI (car x y k : Nat)) (iI k) = b_X12_plus_85 N K (ov mb M1 σ) mb (iI a) (iI b) v3 (iI k) (iI ((x / 10 ^ k % 10 + y / 10 ^ k % 10 + car x y k : Nat) : Int))) → ∃ M', (Sf [a] M0 M' ∧ M'.2.1 1 a = iI (mx (nd x) (k + 1) : Nat) ∧ (∀ j, j < k + 1 → M'.2.1 0 (240 * a + j) = iI (((x + y) / 10 ^ j % 10 : Nat) : Int)) ∧ ∀ j, k + 1 ≤ j → j < nd x → M'.2.1 0 (240 * a + j) = iI ((x / 10 ^ j % 10 : Nat) : Int)) ∧ ∀ K : Sto × Nat × Int32 × Int32 × Int32 × Int32 × Int32 → Option (Unit × Sto), b_X12_plus_48 N K (ov mb M σ) mb (iI a) (iI b) v3 (iI (car x y k : Nat)) (iI k) = K (ov mb M' σ, mb, iI a, iI b, v3, iI (car x y (k + 1) : Nat), iI ((k + 1 : Nat) : Int)) := by
    intro M1 g1 g2 g3 g4 g5
    refine ⟨uA M1 0 (240 * a + k) (iI (((x / 10 ^ k % 10 + y / 10 ^ k % 10 + car x y k) % 10 : Nat) : Int)), ⟨g1.tr (Sf.dig hk), ?_, fun j hj => ?_, fun j h3 h4 => ?_⟩, fun K => ?_⟩
    · rw [uA_nk (by decide)]; exact g2
    · by_cases hjk : j = k
      · subst hjk
        rw [uA_same, add_dig]
      · rw [uA_ne (by omega)]
        exact g3 j (by omega)
    · rw [uA_ne (by omega)]
      exact g4 j h3 h4
    · rw [g5, m_plus_85 ha hk (by omega), car_s]
  have st : ∀ K : Sto × Nat × Int32 × Int32 × Int32 × Int32 × Int32 → Option (Unit × Sto), b_X12_plus_48 N K (ov mb M σ) mb (iI a) (iI b) v3 (iI (car x y k : Nat)) (iI k) = if iI (k : Nat) = iI (mx (nd x) k : Nat) then b2 (f_X12_adds (ov mb M σ) mb (iI a) 0) fun _ τ9 => b_X12_plus_85 N K τ9 mb (iI a) (iI b) v3 (iI k) (iI ((x / 10 ^ k % 10 + y / 10 ^ k % 10 + car x y k : Nat) : Int)) else b_X12_plus_85 N K (ov mb M σ) mb (iI a) (iI b) v3 (iI k) (iI ((x / 10 ^ k % 10 + y / 10 ^ k % 10 + car x y k : Nat) : Int)) := by
    intro K
    unfold b_X12_plus_48
    rw [ov_isO, Option.bind_some, m_digit_raw ha hk (by omega) hm, Option.bind_some, hd, m_digit hb hk hyM, Option.bind_some, jI_add, jI_add, e1]
    simp only [lt_, oR_1, oA_1, Option.bind_some, f1, f2, if_true, hm]
  by_cases hc : nd x ≤ k
  · have e : mx (nd x) k = k := by omega
    have e' : mx (nd x) (k + 1) = k + 1 := by
      have := mx_le (nd x) (k + 1)
      omega
    refine fin (uA (uA M 0 (240 * a + k) 0) 1 a (iI (k + 1 : Nat))) ((hS.tr (Sf.dig hk)).tr Sf.many) ?_ (fun j hj => ?_) (fun j h3 h4 => absurd h4 (by omega)) (fun K => ?_)
    · rw [uA_same, e']
    · rw [uA_nk (by decide), uA_ne (by omega)]
      exact hlo j hj
    · rw [e] at hm
      rw [st, e, if_pos rfl, m_adds_raw ha hk hm]
      rfl
  · have e : mx (nd x) k = nd x := by omega
    have e' : mx (nd x) (k + 1) = nd x := by
      have := mx_le (nd x) (k + 1)
      omega
    refine fin M hS ?_ hlo (fun j h3 h4 => hhi j (by omega) h4) (fun K => ?_)
    · rw [hm, e, e']
    · rw [st, if_neg (fun q => by rw [jI_eq (by omega) (by omega)] at q; omega)]
theorem m_plus {mb : Nat} {M : MS} {σ : Sto} {a b x y N : Nat} (ha : a < 10) (hb : b < 10) (hab : a ≠ b) (hx : Hv M a x) (hy : Hv M b y) (h1 : nd x ≤ 239) (h2 : nd y ≤ 239) (hN : 300 ≤ N) :
    ∃ M', f_X12_plus N (ov mb M σ) mb (iI a) (iI b) = some ((), ov mb M' σ) ∧ Sf [a] M M' ∧ Hv M' a (x + y) := by
  obtain ⟨f1, f2⟩ := rI ha
  obtain ⟨g1, g2⟩ := rI hb
  have h3 := mx_le (nd x) (nd y)
  have h4 := pl_ge x y
  have e : f_X12_plus N (ov mb M σ) mb (iI a) (iI b) = b_X12_plus_37 N (ov mb M σ) mb (iI a) (iI b) (iI (mx (nd x) (nd y) : Nat)) (iI (car x y 0 : Nat)) (iI (0 : Nat)) := by
    have e0 : car x y 0 = 0 := by simp [car, Nat.mod_one]
    rw [e0]
    unfold f_X12_plus b_X12_plus_30
    simp only [oR_1, oA_1, Option.bind_some, f1, f2, g1, g2, if_true, hx.1, hy.1]
    unfold mx
    by_cases h : nd x ≤ nd y
    · rw [if_pos ((jI_le (by omega) (by omega)).mpr h), if_pos h, iI_lit 0]
    · rw [if_neg (fun q => h ((jI_le (by omega) (by omega)).mp q)), if_neg h, iI_lit 0]
  rw [e]
  unfold b_X12_plus_37
  refine lp_ex (n := pl x y) (Inv := fun k e => ∃ M1, e = (ov mb M1 σ, mb, iI a, iI b, iI (mx (nd x) (nd y) : Nat), iI (car x y k : Nat), iI (k : Nat)) ∧ Sf [a] M M1 ∧ M1.2.1 1 a = iI (mx (nd x) k : Nat) ∧ (∀ j, j < k → M1.2.1 0 (240 * a + j) = iI (((x + y) / 10 ^ j % 10 : Nat) : Int)) ∧ ∀ j, k ≤ j → j < nd x → M1.2.1 0 (240 * a + j) = iI ((x / 10 ^ j % 10 : Nat) : Int)) (Post := fun o => ∃ M', o = some ((), ov mb M' σ) ∧ Sf [a] M M' ∧ Hv M' a (x + y)) ?_ ?_ N 0 _ (Nat.zero_le _) (by omega) ?_
  · rintro k _ hk ⟨M1, rfl, i1, i2, i3, i4⟩
    obtain ⟨M2, ⟨j1, j2, j3, j4⟩, j5⟩ := m_plus_48 (mb := mb) (σ := σ) (N := N) (v3 := iI (mx (nd x) (nd y) : Nat)) ha hb hab hy h1 (by omega) i1 i2 i3 i4
    refine ⟨_, ⟨M2, rfl, j1, j2, j3, j4⟩, fun K => ?_⟩
    dsimp only
    unfold b_X12_plus_37_body
    rcases pl_in hk with q | q
    · rw [if_pos ((jI_lt (by omega) (by omega)).mpr q)]
      exact j5 K
    · rw [if_neg (fun w => by rw [jI_lt (by omega) (by omega)] at w; omega), if_neg (fun w => by rw [q.2, iI_lit 0, jI_le (by omega) (by omega)] at w; omega)]
      exact j5 K
  · rintro _ ⟨M1, rfl, i1, i2, i3, i4⟩ K
    dsimp only
    unfold b_X12_plus_37_body
    rw [if_neg (fun w => by rw [jI_lt (by omega) (by omega)] at w; omega), if_pos (by rw [car_pl, iI_lit 0]; exact Int32.le_refl _)]
    have e1 : mx (nd x) (pl x y) = pl x y := by
      have := mx_le (nd x) (pl x y)
      omega
    refine ⟨M1, rfl, i1, ?_, ?_, ?_⟩
    · rw [nd_plus, i2, e1]
    · rw [nd_plus]; omega
    · rw [nd_plus]; exact i3
  · have e1 : mx (nd x) 0 = nd x := by
      have := mx_le (nd x) 0
      omega
    exact ⟨M, rfl, Sf.rf, by rw [e1]; exact hx.1, fun j hj => absurd hj (by omega), fun j _ hj => hx.2.2 j hj⟩
