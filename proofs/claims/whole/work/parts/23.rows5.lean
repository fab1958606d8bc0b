theorem nd_sh {v s : Nat} (h : v ≠ 0) : nd (v * 10 ^ s) = nd v + s := by
  have h1 : v < 10 ^ nd v := nd_le.mpr (Nat.le_refl _)
  have h2 : 10 ^ (nd v - 1) ≤ v := nd_lt.mp (by rw [nd_s h]; omega)
  have h3 : 0 < nd v := by rw [nd_s h]; omega
  refine nd_eq ?_ (Or.inr ?_)
  · rw [Nat.pow_add]
    exact Nat.mul_lt_mul_of_pos_right h1 (pow10_pos s)
  · rw [show nd v + s - 1 = (nd v - 1) + s by omega, Nat.pow_add]
    exact Nat.mul_le_mul_right _ h2
theorem dig_lo {v s k : Nat} (h : k < s) : v * 10 ^ s / 10 ^ k % 10 = 0 := by
  obtain ⟨j, rfl⟩ : ∃ j, s = (j + 1) + k := ⟨s - k - 1, by omega⟩
  rw [Nat.pow_add, ← Nat.mul_assoc, Nat.mul_div_cancel _ (pow10_pos k), Nat.pow_succ, ← Nat.mul_assoc, Nat.mul_mod_left]
theorem dig_hi {v s k : Nat} : v * 10 ^ s / 10 ^ (k + s) % 10 = v / 10 ^ k % 10 := by
  rw [Nat.pow_add, Nat.mul_div_mul_right _ _ (pow10_pos s)]
theorem m_shifts2 {mb : Nat} {M0 : MS} {σ : Sto} {r v s n : Nat} (hr : r < 10) (hv : v ≠ 0) (hn : n = nd v) (hs : n + s ≤ 240) (N : Nat) (M : MS) (i : Nat) (hN : s < N + i) (hi : i ≤ s) (hS : Sf [r] M0 M) (hm : M.2.1 1 r = iI n) (hz : ∀ k, k < i → M.2.1 0 (240 * r + k) = 0) (hd : ∀ k, k < n → M.2.1 0 (240 * r + (k + s)) = iI ((v / 10 ^ k % 10 : Nat) : Int)) :
    ∃ M', b_X12_shifts_61 N (ov mb M σ) mb (iI r) (iI s) (iI i) = some ((), ov mb M' σ) ∧ Sf [r] M0 M' ∧ Hv M' r (v * 10 ^ s) := by
  obtain ⟨f1, f2⟩ := rI hr
  induction N generalizing M i with
  | zero => omega
  | succ N ih =>
    unfold b_X12_shifts_61
    rw [lp_s]
    dsimp only
    unfold b_X12_shifts_61_body
    by_cases h0 : s ≤ i
    · rw [if_pos ((iI_le ⟨by omega, by omega⟩ ⟨by omega, by omega⟩).mpr (by omega))]
      simp only [oR_1, oA_1, oS_1, Option.bind_some, f1, f2, if_true, hm]
      have e : nd (v * 10 ^ s) = n + s := by rw [nd_sh hv, hn]
      refine ⟨_, rfl, hS.tr Sf.many, ?_, by omega, fun k hk => ?_⟩
      · rw [uA_same, iI_add, e]
        exact congrArg iI (by omega)
      · rw [uA_nk (by decide)]
        by_cases hks : k < s
        · rw [dig_lo hks, hz k (by omega)]
          rfl
        · obtain ⟨j, rfl⟩ : ∃ j, k = j + s := ⟨k - s, by omega⟩
          rw [dig_hi]
          exact hd j (by omega)
    · obtain ⟨d1, d2, d3⟩ := rD (k := i) hr (by omega)
      rw [if_neg (fun q => h0 (by have := (iI_le ⟨by omega, by omega⟩ ⟨by omega, by omega⟩).mp q; omega))]
      simp only [oR_0, oS_0, Option.bind_some, d1, d2, d3, if_true]
      show ∃ M', b_X12_shifts_61 N _ mb (iI r) (iI s) (iI i + 1) = _ ∧ _
      rw [iI_lit 1, iI_add]
      refine ih _ (i + 1) (by omega) (by omega) (hS.tr (Sf.dig (by omega))) ?_ (fun k hk => ?_) (fun k hk => ?_)
      · rw [uA_nk (by decide)]
        exact hm
      · by_cases hki : k = i
        · subst hki
          rw [uA_same]
        · rw [uA_ne (by omega)]
          exact hz k (by omega)
      · rw [uA_ne (by omega)]
        exact hd k hk
theorem m_shifts1 {mb : Nat} {M0 : MS} {σ : Sto} {r v s n : Nat} (hr : r < 10) (hv : v ≠ 0) (hn : n = nd v) (hs : n + s ≤ 240) (hs0 : 0 < s) (N : Nat) (M : MS) (i : Nat) (hN : i < N) (hN2 : 300 ≤ N + n - i) (hi : i ≤ n) (hS : Sf [r] M0 M) (hm : M.2.1 1 r = iI n) (hz : ∀ k, k < i → M.2.1 0 (240 * r + k) = iI ((v / 10 ^ k % 10 : Nat) : Int)) (hd : ∀ k, k < n → i ≤ k → M.2.1 0 (240 * r + (k + s)) = iI ((v / 10 ^ k % 10 : Nat) : Int)) (N2 : Nat) (hNN : 300 ≤ N2) :
    ∃ M', lp (fun k e => b_X12_shifts_23_body N2 k e.1 e.2.1 e.2.2.1 e.2.2.2.1 e.2.2.2.2) N (ov mb M σ, mb, iI r, iI s, iI ((i : Int) - 1)) = some ((), ov mb M' σ) ∧ Sf [r] M0 M' ∧ Hv M' r (v * 10 ^ s) := by
  induction N generalizing M i with
  | zero => omega
  | succ N ih =>
    rw [lp_s]
    dsimp only
    unfold b_X12_shifts_23_body
    cases i with
    | zero =>
      rw [if_pos (by decide)]
      exact m_shifts2 hr hv hn hs N2 M 0 (by omega) (by omega) hS hm (fun k hk => absurd hk (by omega)) (fun k hk => hd k hk (by omega))
    | succ i =>
      rw [if_neg (fun q => by rw [iI_lit 0, iI_lt ⟨by omega, by omega⟩ ⟨by decide, by decide⟩] at q; omega)]
      rw [show (((i + 1 : Nat) : Int) - 1) = (i : Int) by omega]
      obtain ⟨d1, d2, d3⟩ := rD (k := i) hr (by omega)
      obtain ⟨g1, g2, g3⟩ := rD (k := i + s) hr (by omega)
      have e : iI ((240 * r + i : Nat) : Int) + iI s = iI ((240 * r + (i + s) : Nat) : Int) := by
        rw [iI_add]
        exact congrArg iI (by omega)
      simp only [oR_0, oA_0, oS_0, Option.bind_some, d1, d2, d3, e, g2, g3, if_true]
      rw [hz i (by omega)]
      have ih := fun M' a b c d e f => ih M' i a b c d e f
      show ∃ M', lp _ N (_, mb, iI r, iI s, iI i + (-1)) = _ ∧ _
      rw [iI_lit 1, iI_neg, iI_add]
      refine ih _ (by omega) (by omega) (by omega) (hS.tr (Sf.dig (by omega))) ?_ (fun k hk => ?_) (fun k hk h2 => ?_)
      · rw [uA_nk (by decide)]
        exact hm
      · rw [uA_ne (by omega)]
        exact hz k (by omega)
      · by_cases hki : k = i
        · subst hki
          rw [uA_same]
        · rw [uA_ne (by omega)]
          exact hd k hk (by omega)
