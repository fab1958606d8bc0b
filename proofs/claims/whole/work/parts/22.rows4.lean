theorem iI_n0 {u : Nat} (hu : u < 2147483648) (h : u ≠ 0) : ¬ iI (u : Int) = 0 := by
  intro q
  rw [iI_lit 0, iI_eq ⟨by omega, by omega⟩ ⟨by decide, by decide⟩] at q
  omega
theorem m_compares {mb : Nat} {M : MS} {σ : Sto} {a b x y N : Nat} (ha : a < 10) (hb : b < 10) (hx : Hv M a x) (hy : Hv M b y) (hN : 300 ≤ N) : f_X12_compares N (ov mb M σ) mb (iI a) (iI b) = some (iI (cmpN x y)) := by
  obtain ⟨f1, f2⟩ := rI ha
  obtain ⟨g1, g2⟩ := rI hb
  have h1 := hx.2.1
  have h2 := hy.2.1
  unfold f_X12_compares
  simp only [oR_1, oA_1, Option.bind_some, f1, f2, g1, g2, if_true, hx.1, hy.1]
  by_cases h : nd x = nd y
  · rw [if_pos (by rw [h])]
    show b_X12_compares_45 N _ mb (iI a) (iI b) (iI (nd x : Nat) - 1) = _
    rw [iI_lit 1, iI_sub]
    refine m_compares_loop ha hb hx hy N (nd x) (by omega) (by omega) ?_
    rw [Nat.div_eq_of_lt (nd_le.mpr (Nat.le_refl _)), h, Nat.div_eq_of_lt (nd_le.mpr (Nat.le_refl _))]
  · rw [if_neg (fun q => h (by have := (iI_eq ⟨by omega, by omega⟩ ⟨by omega, by omega⟩).mp q; omega))]
    by_cases hlt : nd y ≤ nd x
    · rw [if_pos ((iI_le ⟨by omega, by omega⟩ ⟨by omega, by omega⟩).mpr (by omega))]
      have : y < x := Nat.lt_of_lt_of_le (nd_le.mpr (Nat.le_refl _)) (nd_lt.mp (show nd y < nd x by omega))
      simp only [cmpN]
      rw [if_neg (by omega), if_neg (by omega)]
      rfl
    · rw [if_neg (fun q => hlt (by have := (iI_le ⟨by omega, by omega⟩ ⟨by omega, by omega⟩).mp q; omega))]
      have : x < y := Nat.lt_of_lt_of_le (nd_le.mpr (Nat.le_refl _)) (nd_lt.mp (show nd x < nd y by omega))
      simp only [cmpN]
      rw [if_pos this]
      rfl
/-- a row of n places that hold v's digits, the topmost maybe 0: it's cut to v's own -/
theorem m_trims_loop {mb : Nat} {M0 : MS} {σ : Sto} {r v : Nat} (hr : r < 10) (N : Nat) (M : MS) (n : Nat) (hN : n < N) (hn : n ≤ 240) (hS : Sf [r] M0 M) (hm : M.2.1 1 r = iI n) (hd : ∀ k, k < n → M.2.1 0 (240 * r + k) = iI ((v / 10 ^ k % 10 : Nat) : Int)) (hv : v < 10 ^ n) :
    ∃ M', b_X12_trims_0 N (ov mb M σ) mb (iI r) = some ((), ov mb M' σ) ∧ Sf [r] M0 M' ∧ Hv M' r v := by
  obtain ⟨f1, f2⟩ := rI hr
  induction N generalizing M n with
  | zero => omega
  | succ N ih =>
    unfold b_X12_trims_0
    rw [lp_s]
    dsimp only
    unfold b_X12_trims_0_body
    simp only [oR_1, oA_1, Option.bind_some, f1, f2, if_true, hm]
    cases n with
    | zero =>
      have e : v = 0 := by simpa using hv
      subst e
      rw [if_pos (by decide)]
      exact ⟨M, rfl, hS, by rw [nd_0]; exact hm, by rw [nd_0]; omega, fun k hk => by rw [nd_0] at hk; omega⟩
    | succ n =>
      rw [if_neg (fun q => by rw [iI_lit 0, iI_le ⟨by omega, by omega⟩ ⟨by decide, by decide⟩] at q; omega)]
      rw [iI_lit 1, iI_sub, show (((n + 1 : Nat) : Int) - ((1 : Nat) : Int)) = (n : Int) by omega]
      rw [ov_isO, Option.bind_some, m_digit_raw hr (by omega) hn hm, Option.bind_some, if_neg (show ¬ (n + 1 ≤ n) by omega), hd n (by omega)]
      have l1 : v / 10 ^ n < 10 := (Nat.div_lt_iff_lt_mul (pow10_pos n)).mpr (by rw [Nat.pow_succ] at hv; omega)
      by_cases h0 : v / 10 ^ n = 0
      · have hlt : v < 10 ^ n := by
          rcases Nat.div_eq_zero_iff.mp h0 with h | h
          · exact absurd h (Nat.pos_iff_ne_zero.mp (pow10_pos n))
          · exact h
        rw [h0, if_pos (by decide)]
        simp only [oS_1, Option.bind_some, f1, f2, if_true]
        refine ih _ n (by omega) (by omega) (hS.tr Sf.many) uA_same (fun k hk => ?_) hlt
        rw [uA_nk (by decide)]
        exact hd k (by omega)
      · have e : nd v = n + 1 := by
          refine nd_eq hv (Or.inr ?_)
          show 10 ^ n ≤ v
          exact Nat.not_lt.mp fun q => h0 (Nat.div_eq_of_lt q)
        rw [Nat.mod_eq_of_lt l1]
        rw [if_neg (iI_n0 (Nat.lt_trans l1 (by decide)) h0)]
        exact ⟨M, rfl, hS, by rw [e]; exact hm, by omega, fun k hk => hd k (by omega)⟩
theorem m_trims {mb : Nat} {M : MS} {σ : Sto} {r v n N : Nat} (hr : r < 10) (hN : 300 ≤ N) (hn : n ≤ 240) (hm : M.2.1 1 r = iI n) (hd : ∀ k, k < n → M.2.1 0 (240 * r + k) = iI ((v / 10 ^ k % 10 : Nat) : Int)) (hv : v < 10 ^ n) :
    ∃ M', f_X12_trims N (ov mb M σ) mb (iI r) = some ((), ov mb M' σ) ∧ Sf [r] M M' ∧ Hv M' r v := m_trims_loop hr N M n (by omega) hn Sf.rf hm hd hv
