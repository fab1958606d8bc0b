theorem sub_dig {x y k : Nat} (h : y ≤ x) : (x / 10 ^ k % 10 : Nat) + (if x / 10 ^ k % 10 < y / 10 ^ k % 10 + bor x y k then 10 else 0) = y / 10 ^ k % 10 + bor x y k + (x - y) / 10 ^ k % 10 := by
  have h1 := sub_div (k := k) h
  have h2 := bor_01 x y k
  generalize bor x y k = b at *
  generalize x / 10 ^ k = X at *
  generalize y / 10 ^ k = Y at *
  generalize (x - y) / 10 ^ k = D at *
  by_cases hc : X % 10 < Y % 10 + b
  · rw [if_pos hc]; omega
  · rw [if_neg hc]; omega
theorem m_less_loop {mb : Nat} {M0 : MS} {σ : Sto} {a b x y N2 : Nat} (ha : a < 10) (hb : b < 10) (hab : a ≠ b) (hy : Hv M0 b y) (hyx : y ≤ x) (hx : nd x ≤ 240) (hN2 : 300 ≤ N2) (N : Nat) (M : MS) (k : Nat) (hN : nd x < N + k) (hk : k ≤ nd x) (hS : Sf [a] M0 M) (hm : M.2.1 1 a = iI (nd x : Nat)) (hlo : ∀ j, j < k → M.2.1 0 (240 * a + j) = iI (((x - y) / 10 ^ j % 10 : Nat) : Int)) (hhi : ∀ j, k ≤ j → j < nd x → M.2.1 0 (240 * a + j) = iI ((x / 10 ^ j % 10 : Nat) : Int)) :
    ∃ M', lp (fun k e => b_X12_less_5_body N2 k e.1 e.2.1 e.2.2.1 e.2.2.2.1 e.2.2.2.2.1 e.2.2.2.2.2) N (ov mb M σ, mb, iI a, iI b, iI (bor x y k : Nat), iI k) = some ((), ov mb M' σ) ∧ Sf [a] M0 M' ∧ Hv M' a (x - y) := by
  obtain ⟨f1, f2⟩ := rI ha
  induction N generalizing M k with
  | zero => omega
  | succ N ih =>
    have hyM := hS.Hv (by simpa using hab.symm) hy
    rw [lp_s]
    dsimp only
    unfold b_X12_less_5_body
    simp only [oR_1, oA_1, Option.bind_some, f1, f2, if_true, hm]
    by_cases h0 : nd x ≤ k
    · rw [if_pos ((iI_le ⟨by omega, by omega⟩ ⟨by omega, by omega⟩).mpr (by omega)), ov_isO, Option.bind_some]
      obtain ⟨M', e1, e2, e3⟩ := m_trims (mb := mb) (σ := σ) (N := N2) (v := x - y) ha (by omega) hx hm (fun j hj => hlo j (by omega)) (Nat.lt_of_le_of_lt (Nat.sub_le _ _) (nd_le.mpr (Nat.le_refl _)))
      rw [e1]
      exact ⟨M', rfl, hS.tr e2, e3⟩
    · rw [if_neg (fun q => h0 (by have := (iI_le ⟨by omega, by omega⟩ ⟨by omega, by omega⟩).mp q; omega))]
      rw [ov_isO, Option.bind_some, m_digit_raw ha (by omega) hx hm, Option.bind_some, if_neg (show ¬ nd x ≤ k from h0), hhi k (by omega) (by omega), m_digit hb (by omega) hyM, Option.bind_some]
      obtain ⟨d1, d2, d3⟩ := rD (k := k) ha (by omega)
      have s1 := sub_dig (k := k) hyx
      have s2 := bor_s (x := x) (y := y) (k := k)
      have s3 := bor_01 x y k
      have l1 : x / 10 ^ k % 10 < 10 := Nat.mod_lt _ (by decide)
      have l2 : y / 10 ^ k % 10 < 10 := Nat.mod_lt _ (by decide)
      have ih := fun M' b c d e f g => ih M' (k + 1) b c d e f g
      rw [s2] at ih
      generalize bor x y k = w at *
      generalize hX : x / 10 ^ k % 10 = X at *
      generalize y / 10 ^ k % 10 = Y at *
      have st : ∀ D : Int, D = (((x - y) / 10 ^ k % 10 : Nat) : Int) → Sf [a] M0 (uA M 0 (240 * a + k) (iI D)) ∧ (uA M 0 (240 * a + k) (iI D)).2.1 1 a = iI (nd x : Nat) ∧ (∀ j, j < k + 1 → (uA M 0 (240 * a + k) (iI D)).2.1 0 (240 * a + j) = iI (((x - y) / 10 ^ j % 10 : Nat) : Int)) ∧ (∀ j, k + 1 ≤ j → j < nd x → (uA M 0 (240 * a + k) (iI D)).2.1 0 (240 * a + j) = iI ((x / 10 ^ j % 10 : Nat) : Int)) := by
        intro D hD
        refine ⟨hS.tr (Sf.dig (by omega)), ?_, fun j hj => ?_, fun j h1 h2 => ?_⟩
        · rw [uA_nk (by decide)]; exact hm
        · by_cases hjk : j = k
          · subst hjk
            rw [uA_same, hD]
          · rw [uA_ne (by omega)]
            exact hlo j (by omega)
        · rw [uA_ne (by omega)]
          exact hhi j (by omega) h2
      by_cases hc : X < Y + w
      · rw [if_pos hc] at s1 ih
        obtain ⟨t1, t2, t3, t4⟩ := st ((X : Int) - w - Y + (10 : Nat)) (by omega)
        have hneg : ¬ (0 : Int32) ≤ iI ((X : Int) - w - Y) := fun q => by
          rw [iI_lit 0, iI_le ⟨by decide, by decide⟩ ⟨by omega, by omega⟩] at q
          omega
        simp only [lt_, iI_sub]
        rw [if_neg hneg]
        unfold b_X12_less_45
        simp only [oR_0, Option.bind_some]
        rw [if_neg hneg]
        unfold b_X12_less_73
        rw [iI_lit 10, iI_add]
        simp only [oS_0, Option.bind_some, d1, d2, d3, if_true, lt_]
        have key := ih _ (by omega) (by omega) t1 t2 t3 t4
        rw [show iI (k : Nat) + 1 = iI ((k + 1 : Nat) : Int) by rw [iI_lit 1, iI_add]; exact congrArg iI (by omega)]
        exact key
      · rw [if_neg hc] at s1 ih
        obtain ⟨t1, t2, t3, t4⟩ := st ((X : Int) - w - Y) (by omega)
        have hpos : (0 : Int32) ≤ iI ((X : Int) - w - Y) := by
          rw [iI_lit 0, iI_le ⟨by decide, by decide⟩ ⟨by omega, by omega⟩]
          omega
        simp only [lt_, iI_sub]
        rw [if_pos hpos]
        unfold b_X12_less_45
        simp only [oR_0, Option.bind_some]
        rw [if_pos hpos]
        unfold b_X12_less_73
        simp only [oS_0, Option.bind_some, d1, d2, d3, if_true, lt_]
        have key := ih _ (by omega) (by omega) t1 t2 t3 t4
        rw [show iI (k : Nat) + 1 = iI ((k + 1 : Nat) : Int) by rw [iI_lit 1, iI_add]; exact congrArg iI (by omega)]
        exact key
theorem m_less {mb : Nat} {M : MS} {σ : Sto} {a b x y N : Nat} (ha : a < 10) (hb : b < 10) (hab : a ≠ b) (hx : Hv M a x) (hy : Hv M b y) (hyx : y ≤ x) (hN : 300 ≤ N) :
    ∃ M', f_X12_less N (ov mb M σ) mb (iI a) (iI b) = some ((), ov mb M' σ) ∧ Sf [a] M M' ∧ Hv M' a (x - y) := by
  have h240 := hx.2.1
  have key := m_less_loop (mb := mb) (M0 := M) (σ := σ) (x := x) (N2 := N) ha hb hab hy hyx h240 hN N M 0 (by omega) (by omega) Sf.rf hx.1 (fun j hj => absurd hj (by omega)) (fun j _ hj => hx.2.2 j hj)
  have e : bor x y 0 = 0 := by simp [bor, Nat.mod_one]
  rw [e] at key
  exact key
/-- the carry of a sum -/
def car (x y k : Nat) : Nat := (x % 10 ^ k + y % 10 ^ k) / 10 ^ k
theorem add_div {x y k : Nat} : (x + y) / 10 ^ k = x / 10 ^ k + y / 10 ^ k + car x y k := by
  unfold car
  have hx := Nat.div_add_mod x (10 ^ k)
  have hy := Nat.div_add_mod y (10 ^ k)
  rw [show x + y = 10 ^ k * (x / 10 ^ k + y / 10 ^ k) + (x % 10 ^ k + y % 10 ^ k) by rw [Nat.mul_add]; omega, Nat.mul_add_div (pow10_pos k)]
theorem car_s {x y k : Nat} : car x y (k + 1) = (x / 10 ^ k % 10 + y / 10 ^ k % 10 + car x y k) / 10 := by
  have h1 := add_div (x := x) (y := y) (k := k)
  have h2 := add_div (x := x) (y := y) (k := k + 1)
  rw [Nat.pow_succ, ← Nat.div_div_eq_div_mul, ← Nat.div_div_eq_div_mul, ← Nat.div_div_eq_div_mul] at h2
  generalize car x y k = c at *
  generalize car x y (k + 1) = d at *
  generalize (x + y) / 10 ^ k = S at *
  generalize x / 10 ^ k = X at *
  generalize y / 10 ^ k = Y at *
  omega
theorem add_dig {x y k : Nat} : (x + y) / 10 ^ k % 10 = (x / 10 ^ k % 10 + y / 10 ^ k % 10 + car x y k) % 10 := by
  have h1 := add_div (x := x) (y := y) (k := k)
  generalize car x y k = c at *
  generalize (x + y) / 10 ^ k = S at *
  generalize x / 10 ^ k = X at *
  generalize y / 10 ^ k = Y at *
  omega
theorem car_01 (x y k : Nat) : car x y k = 0 ∨ car x y k = 1 := by
  have lx : x % 10 ^ k < 10 ^ k := Nat.mod_lt _ (pow10_pos k)
  have ly : y % 10 ^ k < 10 ^ k := Nat.mod_lt _ (pow10_pos k)
  unfold car
  have h : (x % 10 ^ k + y % 10 ^ k) / 10 ^ k < 2 := (Nat.div_lt_iff_lt_mul (pow10_pos k)).mpr (by omega)
  generalize (x % 10 ^ k + y % 10 ^ k) / 10 ^ k = d at *
  omega
