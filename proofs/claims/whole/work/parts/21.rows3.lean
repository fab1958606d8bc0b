theorem rI {r : Nat} (hr : r < 10) : inB (iI r) 10 = true ∧ (iI r).toNatClampNeg = r := by
  refine ⟨(iI_inB ⟨by omega, by omega⟩).mpr ⟨by omega, by omega⟩, ?_⟩
  rw [iI_cl ⟨by omega, by omega⟩]
  rfl
theorem rD {r k : Nat} (hr : r < 10) (hk : k < 240) : (240 : Int32) * iI r + iI k = iI ((240 * r + k : Nat) : Int) ∧ inB (iI ((240 * r + k : Nat) : Int)) 2400 = true ∧ (iI ((240 * r + k : Nat) : Int)).toNatClampNeg = 240 * r + k := by
  refine ⟨?_, (iI_inB ⟨by omega, by omega⟩).mpr ⟨by omega, by omega⟩, ?_⟩
  · rw [iI_lit 240, iI_mul, iI_add]
    congr 1
  · rw [iI_cl ⟨by omega, by omega⟩]
    rfl
theorem m_copies_loop {mb : Nat} {M0 : MS} {σ : Sto} {f t v : Nat} (hf : f < 10) (ht : t < 10) (hft : f ≠ t) (hv : Hv M0 f v) (N : Nat) (M : MS) (i : Nat) (hN : nd v < N + i) (hi : i ≤ nd v) (hS : Sf [t] M0 M) (hm : M.2.1 1 t = iI i) (hd : ∀ k, k < i → M.2.1 0 (240 * t + k) = iI ((v / 10 ^ k % 10 : Nat) : Int)) :
    ∃ M', b_X12_copies_9 N (ov mb M σ) mb (iI f) (iI t) (iI i) = some ((), ov mb M' σ) ∧ Sf [t] M0 M' ∧ Hv M' t v := by
  obtain ⟨f1, f2⟩ := rI hf
  have h240 := hv.2.1
  induction N generalizing M i with
  | zero => omega
  | succ N ih =>
    have hvM := hS.Hv (by simpa using hft) hv
    unfold b_X12_copies_9
    rw [lp_s]
    dsimp only
    unfold b_X12_copies_9_body
    simp only [oR_1, oA_1, Option.bind_some, f1, f2, if_true, hvM.1]
    by_cases h0 : nd v ≤ i
    · rw [if_pos ((iI_le ⟨by omega, by omega⟩ ⟨by omega, by omega⟩).mpr (by omega))]
      have e : nd v = i := by omega
      exact ⟨M, rfl, hS, by rw [e]; exact hm, by omega, fun k hk => hd k (by omega)⟩
    · rw [if_neg (fun q => h0 (by have := (iI_le ⟨by omega, by omega⟩ ⟨by omega, by omega⟩).mp q; omega)), ov_isO, Option.bind_some, m_digit hf (by omega) hvM, Option.bind_some, m_adds_raw ht (by omega) hm]
      show ∃ M', b_X12_copies_9 N _ mb (iI f) (iI t) (iI i + 1) = _ ∧ _
      rw [iI_lit 1, iI_add]
      refine ih _ (i + 1) (by omega) (by omega) ((hS.tr (Sf.dig (by omega))).tr Sf.many) uA_same (fun k hk => ?_)
      rw [uA_nk (by decide)]
      by_cases hki : k = i
      · subst hki
        rw [uA_same]
      · rw [uA_ne (by omega)]
        exact hd k (by omega)
theorem m_copies {mb : Nat} {M : MS} {σ : Sto} {f t v N : Nat} (hf : f < 10) (ht : t < 10) (hft : f ≠ t) (hv : Hv M f v) (hN : 300 ≤ N) :
    ∃ M', f_X12_copies N (ov mb M σ) mb (iI f) (iI t) = some ((), ov mb M' σ) ∧ Sf [t] M M' ∧ Hv M' t v := by
  obtain ⟨f1, f2⟩ := rI ht
  have h240 := hv.2.1
  unfold f_X12_copies
  simp only [oR_1, oS_1, Option.bind_some, f1, f2, if_true]
  exact m_copies_loop hf ht hft hv N (uA M 1 t 0) 0 (by omega) (by omega) Sf.many uA_same (fun k hk => absurd hk (by omega))
def cmpN (x y : Nat) : Int := if x < y then -1 else if x = y then 0 else 1
theorem pow10_pos (k : Nat) : 0 < 10 ^ k := Nat.pow_pos (by decide)
theorem cmpN_hi {x y : Nat} (k : Nat) (h : x / 10 ^ k < y / 10 ^ k) : x < y := Nat.not_le.mp fun q => absurd (Nat.div_le_div_right (c := 10 ^ k) q) (by omega)
theorem dig_s (x k : Nat) : x / 10 ^ k = 10 * (x / 10 ^ (k + 1)) + x / 10 ^ k % 10 := by
  rw [Nat.pow_succ, ← Nat.div_div_eq_div_mul]
  omega
theorem m_compares_loop {mb : Nat} {M : MS} {σ : Sto} {a b x y : Nat} (ha : a < 10) (hb : b < 10) (hx : Hv M a x) (hy : Hv M b y) (N i : Nat) (hN : i < N) (hi : i ≤ 240) (he : x / 10 ^ i = y / 10 ^ i) :
    b_X12_compares_45 N (ov mb M σ) mb (iI a) (iI b) (iI ((i : Int) - 1)) = some (iI (cmpN x y)) := by
  induction N generalizing i with
  | zero => omega
  | succ N ih =>
    unfold b_X12_compares_45
    rw [lp_s]
    dsimp only
    unfold b_X12_compares_45_body
    cases i with
    | zero =>
      rw [if_pos (by decide)]
      have e : x = y := by simpa using he
      subst e
      simp [cmpN]
      rfl
    | succ i =>
      rw [if_neg (fun q => by rw [iI_lit 0, iI_lt ⟨by omega, by omega⟩ ⟨by decide, by decide⟩] at q; omega)]
      rw [show (((i + 1 : Nat) : Int) - 1) = (i : Int) by omega]
      rw [ov_isO, Option.bind_some, m_digit ha (by omega) hx, Option.bind_some, m_digit hb (by omega) hy, Option.bind_some]
      have d1 := dig_s x i
      have d2 := dig_s y i
      have c1 := @cmpN_hi x y i
      have c2 := @cmpN_hi y x i
      have ih := ih i (by omega) (by omega)
      have l1 : x / 10 ^ i % 10 < 10 := Nat.mod_lt _ (by decide)
      have l2 : y / 10 ^ i % 10 < 10 := Nat.mod_lt _ (by decide)
      generalize x / 10 ^ i % 10 = u at *
      generalize y / 10 ^ i % 10 = w at *
      by_cases huw : u = w
      · subst huw
        rw [if_pos rfl]
        show b_X12_compares_45 N _ mb (iI a) (iI b) (iI i + (-1)) = _
        rw [iI_lit 1, iI_neg, iI_add]
        exact ih (by omega)
      · rw [if_neg (fun q => huw (by have := (iI_eq ⟨by omega, by omega⟩ ⟨by omega, by omega⟩).mp q; omega))]
        simp only [Option.bind_some]
        by_cases hlt : w ≤ u
        · rw [if_pos ((iI_le ⟨by omega, by omega⟩ ⟨by omega, by omega⟩).mpr (by omega))]
          have : y < x := c2 (by omega)
          simp only [cmpN]
          rw [if_neg (by omega), if_neg (by omega)]
          rfl
        · rw [if_neg (fun q => hlt (by have := (iI_le ⟨by omega, by omega⟩ ⟨by omega, by omega⟩).mp q; omega))]
          have : x < y := c1 (by omega)
          simp only [cmpN]
          rw [if_pos this]
          rfl
