/-! ===== the text: type, wipe, fault ===== -/
theorem agw_in {xb mb ob : Nat} {Cl Md : Sto → Option (Int32 × Sto)} (h : ∀ n σ sz ni A W K M, n < 512 → A 0 0 = xb → ob = mb + 41 → Cf mb ni A W K M σ → Rel n ni A K M σ → Fr σ sz → ∃ r K' M', Cl σ = some (r, ovk A W K' σ) ∧ (∀ ρ, Md (ov mb M ρ) = some (r, ov mb M' ρ)) ∧ Rel (n + 1) ni A K' M' σ) : AgW (I0 xb mb ob) xb mb Cl Md := by
  intro n σ sz hn hI hF
  obtain ⟨ni, A, W, K, M, hA, ho, hC, hR⟩ := hI
  obtain ⟨r, K', M', h1, h2, h3⟩ := h n σ sz ni A W K M hn hA ho hC hR hF
  have c2 := hC.cls (K' := K')
  have e := c2.eqm
  have h2 := h2 (ovk A W K' σ)
  rw [e] at h2
  refine ⟨r, ovk A W K' σ, ov mb M' (ovk A W K' σ), by rw [← hA]; exact hC.xo, h1, ?_, h2, ni, A, W, K', M', hA, ho, c2.ref, ?_⟩
  · rw [← e]; exact ov_isO
  · exact h3.vk (VK.tr (fun p u s h => hC.vcls h) (fun p u s h => c2.vref h))
theorem agr_in {xb mb ob : Nat} {Cl : Sto → Option Int32} {Md : Sto → Option (Int32 × Sto)} (h : ∀ n σ sz ni A W K M, n < 512 → A 0 0 = xb → ob = mb + 41 → Cf mb ni A W K M σ → Rel n ni A K M σ → Fr σ sz → ∃ r M', Cl σ = some r ∧ (∀ ρ, Md (ov mb M ρ) = some (r, ov mb M' ρ)) ∧ Sd M M') : AgR (I0 xb mb ob) xb mb Cl Md := by
  intro n σ sz hn hI hF
  obtain ⟨ni, A, W, K, M, hA, ho, hC, hR⟩ := hI
  obtain ⟨r, M', h1, h2, h3⟩ := h n σ sz ni A W K M hn hA ho hC hR hF
  have e := hC.eqm
  have h2 := h2 σ
  rw [e] at h2
  refine ⟨r, ov mb M' σ, by rw [← hA]; exact hC.xo, h1, ?_, h2, ni, A, W, K, M', hA, ho, hC.ref, ?_⟩
  · rw [← e]; exact ov_isO
  · exact ((hR.sd h3).up).vk (fun p u s h => hC.vref h)
theorem p_wipe {xb mb ob N : Nat} : A_wipe (I0 xb mb ob) N xb mb ob := by
  refine agw_in (fun n σ sz ni A W K M hn hA ho hC hR hF => ?_)
  subst hA
  have hR0 := hR
  obtain ⟨a, ⟨len, l1, l2, l3, l4⟩, c⟩ := hR0
  refine ⟨iI (len : Nat), kI K 2 0 1 0, uI (uI M 8 0) 7 0, ?_, fun ρ => ?_, ?_⟩
  · have key : f_X11_wipe (ovk A W K σ) (A 0 0) = some (iI (len : Nat), ovk A W (kI K 2 0 1 0) σ) := by
      simp only [f_X11_wipe, f_X9_empty, xR_0_1 hC.1, xO_2 hC.1, xI_2_1 hC.1, xP_2_1 hC.1, Option.bind_some, b2, l2]
    rw [hC.eqk] at key
    exact key
  · simp only [f_X12_wipe, oP_8, oI_7, oP_7, Option.bind_some]
    have : (uI M 8 0).1 7 = iI (len : Nat) := by rw [uI_v, if_neg (by decide)]; exact l3
    rw [this]
  · have h8 := hR.sd (Sd.u8 (v := 0))
    obtain ⟨a, b, c⟩ := h8.up
    exact ⟨a, ⟨0, by decide, rfl, rfl, fun i hi => absurd hi (by omega)⟩, c⟩
theorem nC_eq {v : Int32} : nC v = nC v := rfl
theorem p_type {xb mb ob N : Nat} : A_type (I0 xb mb ob) N xb mb ob := by
  intro v
  refine ag_in (fun n σ sz ni A W K M hn hA ho hC hR hF => ?_)
  subst hA
  have hR0 := hR
  obtain ⟨a, ⟨len, l1, l2, l3, l4⟩, c⟩ := hR0
  have l3' : (uI M 8 0).1 7 = iI (len : Nat) := by rw [uI_v, if_neg (by decide)]; exact l3
  by_cases h24 : len = 24
  · refine ag_no (k := 1) (y := sz) rfl ho hC hR ?_ (by decide) (by decide) (fun ρ => ⟨uI M 8 1, 0, ?_, Sd.u8, u8_v⟩)
    · have key : f_X11_type (ovk A W K σ) (A 0 0) v = some (.inl 4, ovk A W K σ) := by
        simp only [f_X11_type, f_X9_isFull, xR_0_1 hC.1, xO_2 hC.1, xI_2_1 hC.1, Option.bind_some, l2]
        rw [if_neg (show ¬ iI (len : Nat) < 24 from fun w => by rw [iI_lit 24, jI_lt (by omega) (by omega)] at w; omega)]
        rfl
      rw [hC.eqk] at key
      simp only [f_L_type, hC.xo, Option.bind_some, key, b2, bs]
      rfl
    · simp only [f_X12_type, oI_7, Option.bind_some, l3]
      rw [if_pos (show iI (len : Nat) = 24 by rw [h24]; rfl)]
      unfold b_X12_type_15
      simp only [ov_isO, Option.bind_some, ff1, b2]
      rfl
  · have hl : len < 24 := by omega
    have e1 : inB (iI (len : Nat)) 24 = true := inN hl (by decide)
    have e2 : (iI (len : Nat)).toNatClampNeg = len := clN (by omega)
    obtain ⟨K', hK'⟩ : ∃ K', K' = kI (kI K 3 0 len (nC v)) 2 0 1 (iI ((len + 1 : Nat) : Int)) := ⟨_, rfl⟩
    have key : f_X11_type (ovk A W K σ) (A 0 0) v = some (.inr (iI ((len + 1 : Nat) : Int)), ovk A W K' σ) := by
      simp only [f_X11_type, f_X9_isFull, f_X9_add, xR_0_1 hC.1, xO_2 hC.1, xI_2_1 hC.1, Option.bind_some, l2, xR_2_0 hC.1, xS_3 hC.1, xP_2_1 hC.1, b2, e1, e2, if_true]
      rw [if_pos (show iI (len : Nat) < 24 by rw [iI_lit 24, jI_lt (by omega) (by omega)]; exact hl), Option.bind_some, if_pos rfl]
      rw [if_neg (show ¬ 24 ≤ iI (len : Nat) from fun w => by rw [iI_lit 24, jI_le (by omega) (by omega)] at w; omega)]
      have q : (kI K 3 0 len (nC v)).1 2 0 1 = iI (len : Nat) := l2
      rw [Option.bind_some, q, jI_s, ← hK']
      have q2 : K'.1 2 0 1 = iI ((len + 1 : Nat) : Int) := by rw [hK', kI_v, if_pos ⟨rfl, rfl, rfl⟩]
      rw [q2]
    rw [hC.eqk] at key
    refine ag_ok (v := (iI ((len + 1 : Nat) : Int)).toInt64) (y := sz) rfl ho ?_ (hC.cls (K' := K')) (fun ρ => ⟨uI (uA (uI M 8 0) 6 len (nC v)) 7 (iI ((len + 1 : Nat) : Int)), iI ((len + 1 : Nat) : Int), ?_, ?_, rfl, ?_⟩)
    · simp only [f_L_type, hC.xo, Option.bind_some, key, b2, bs]
    · simp only [f_X12_type, oI_7, Option.bind_some, l3]
      rw [if_neg (show ¬ iI (len : Nat) = 24 from fun w => by rw [iI_lit 24, jI_eq (by omega) (by omega)] at w; omega)]
      unfold b_X12_type_15
      simp only [ov_isO, Option.bind_some, ff0, b2, if_true, oR_6, oI_7, l3', oS_6, e1, e2, oP_7]
      have q : (uA (uI M 8 0) 6 len (nC v)).1 7 = iI (len : Nat) := l3'
      rw [q, jI_s]
      have q2 : (uI (uA (uI M 8 0) 6 len (nC v)) 7 (iI ((len + 1 : Nat) : Int))).1 7 = iI ((len + 1 : Nat) : Int) := by rw [uI_v, if_pos rfl]
      rw [q2]
    · rw [uI_v, if_neg (by decide)]
      exact u8_v (M := M) (v := 0)
    · have h8 := hR.sd (Sd.u8 (v := 0))
      have h9 := (h8.up).vk (fun p u s h => hC.vcls (K' := K') h)
      obtain ⟨a, b, c⟩ := h9
      subst hK'
      refine ⟨a, ⟨len + 1, by omega, ?_, ?_, fun i hi => ?_⟩, c⟩
      · rw [kI_v, if_pos ⟨rfl, rfl, rfl⟩]
      · rw [uI_v, if_pos rfl]
      · show (kI K 3 0 len (nC v)).1 3 0 i = (uA (uI M 8 0) 6 len (nC v)).2.1 6 i
        rw [kI_v, uA_v]
        by_cases hi2 : i = len
        · rw [if_pos ⟨rfl, rfl, hi2⟩, if_pos ⟨rfl, hi2⟩]
        · rw [if_neg (fun w => hi2 w.2.2), if_neg (fun w => hi2 w.2)]
          exact l4 i (by omega)
/-- the states of the reference, and those of the class -/
def okS (z : Int32) : Prop := z = 0 ∨ z = 1 ∨ z = 2 ∨ z = 3 ∨ z = 4 ∨ z = 5 ∨ z = 6 ∨ z = 7 ∨ z = 8 ∨ z = 9 ∨ z = 10
def phi (z : Int32) : Int32 := if z = 2 then 3 else if z = 3 then 2 else if z = 6 then 4 else if z = 7 then 6 else if z = 8 then 7 else if z = 9 then 8 else if z = 10 then 9 else z
def nx (z c : Int32) : Int32 := (f_X12_next z c).getD (-1)
theorem nx_all {z : Int32} (hz : okS z) (c : Int32) : f_X12_next z c = some (nx z c) ∧ f_X9_next (phi z) c = some (phi (nx z c)) ∧ (nx z c = -1 ∨ okS (nx z c)) ∧ (nx z c = 1 → c = 43 ∨ c = 45) ∧ (nx z c = 7 → c = 43 ∨ c = 45) ∧ ((nx z c = 2 ∨ nx z c = 6 ∨ nx z c = 8 ∨ nx z c = 9 ∨ nx z c = 10) → ¬ c < 48 ∧ ¬ 57 < c) ∧ ((nx z c = 0 ∨ nx z c = 1 ∨ nx z c = 3 ∨ nx z c = 4 ∨ nx z c = 5 ∨ nx z c = 7) → c < 48 ∨ 57 < c) ∧ (nx z c = 1 → z = 0) := by
  have con : ∀ d : Int32, (d = 43 ∨ d = 45 ∨ d = 46 ∨ d = 69 ∨ d = 101) → ∀ z : Int32, okS z → f_X12_next z d = some (nx z d) ∧ f_X9_next (phi z) d = some (phi (nx z d)) ∧ (nx z d = -1 ∨ okS (nx z d)) ∧ (nx z d = 1 → d = 43 ∨ d = 45) ∧ (nx z d = 7 → d = 43 ∨ d = 45) ∧ ((nx z d = 2 ∨ nx z d = 6 ∨ nx z d = 8 ∨ nx z d = 9 ∨ nx z d = 10) → ¬ d < 48 ∧ ¬ 57 < d) ∧ ((nx z d = 0 ∨ nx z d = 1 ∨ nx z d = 3 ∨ nx z d = 4 ∨ nx z d = 5 ∨ nx z d = 7) → d < 48 ∨ 57 < d) ∧ (nx z d = 1 → z = 0) := by
    intro d hd z hz
    unfold okS
    rcases hd with rfl | rfl | rfl | rfl | rfl <;> rcases hz with rfl | rfl | rfl | rfl | rfl | rfl | rfl | rfl | rfl | rfl | rfl <;> decide
  by_cases h1 : c = 43
  · exact con c (Or.inl h1) z hz
  by_cases h2 : c = 45
  · exact con c (Or.inr (Or.inl h2)) z hz
  by_cases h3 : c = 46
  · exact con c (Or.inr (Or.inr (Or.inl h3))) z hz
  by_cases h4 : c = 69
  · exact con c (Or.inr (Or.inr (Or.inr (Or.inl h4)))) z hz
  by_cases h5 : c = 101
  · exact con c (Or.inr (Or.inr (Or.inr (Or.inr h5)))) z hz
  have fin : ∀ y : Int32, f_X12_next z c = some y → f_X9_next (phi z) c = some (phi y) → ((y = -1 ∨ okS y) ∧ (y = 1 → c = 43 ∨ c = 45) ∧ (y = 7 → c = 43 ∨ c = 45) ∧ ((y = 2 ∨ y = 6 ∨ y = 8 ∨ y = 9 ∨ y = 10) → ¬ c < 48 ∧ ¬ 57 < c) ∧ ((y = 0 ∨ y = 1 ∨ y = 3 ∨ y = 4 ∨ y = 5 ∨ y = 7) → c < 48 ∨ 57 < c) ∧ (y = 1 → z = 0)) → f_X12_next z c = some (nx z c) ∧ f_X9_next (phi z) c = some (phi (nx z c)) ∧ (nx z c = -1 ∨ okS (nx z c)) ∧ (nx z c = 1 → c = 43 ∨ c = 45) ∧ (nx z c = 7 → c = 43 ∨ c = 45) ∧ ((nx z c = 2 ∨ nx z c = 6 ∨ nx z c = 8 ∨ nx z c = 9 ∨ nx z c = 10) → ¬ c < 48 ∧ ¬ 57 < c) ∧ ((nx z c = 0 ∨ nx z c = 1 ∨ nx z c = 3 ∨ nx z c = 4 ∨ nx z c = 5 ∨ nx z c = 7) → c < 48 ∨ 57 < c) ∧ (nx z c = 1 → z = 0) := by
    intro y a b d
    have e : nx z c = y := by unfold nx; rw [a]; rfl
    rw [e]
    exact ⟨a, b, d⟩
  by_cases h6 : c < 48
  · have o12 : ∀ z, okS z → f_X12_next z c = some (-1) := by
      intro z hz
      simp only [f_X12_next, b_X12_next_16, b_X12_next_17, b_X12_next_35, b_X12_next_53, b_X12_next_200, b_X12_next_251, h6, h1, h2, h3, h4, h5, if_true, if_false]
      rcases hz with rfl | rfl | rfl | rfl | rfl | rfl | rfl | rfl | rfl | rfl | rfl <;> rfl
    have o9 : ∀ z, okS z → f_X9_next (phi z) c = some (-1) := by
      intro z hz
      simp only [f_X9_next, f_X9_isPlusOrMinus, f_X9_nextBeforeDigits, f_X9_nextAmongDigits, f_X9_nextIfDigit, f_X9_isDigit, h6, h1, h2, h3, h4, h5, if_true, if_false, Option.bind_some]
      rcases hz with rfl | rfl | rfl | rfl | rfl | rfl | rfl | rfl | rfl | rfl | rfl <;> rfl
    exact fin (-1) (o12 z hz) (o9 z hz) ⟨Or.inl rfl, fun w => absurd w (by decide), fun w => absurd w (by decide), fun w => absurd w (by decide), fun w => absurd w (by decide), fun w => absurd w (by decide)⟩
  by_cases h7 : 57 < c
  · have o12 : ∀ z, okS z → f_X12_next z c = some (-1) := by
      intro z hz
      simp only [f_X12_next, b_X12_next_16, b_X12_next_17, b_X12_next_35, b_X12_next_53, b_X12_next_200, b_X12_next_251, h6, h7, h1, h2, h3, h4, h5, if_true, if_false]
      rcases hz with rfl | rfl | rfl | rfl | rfl | rfl | rfl | rfl | rfl | rfl | rfl <;> rfl
    have o9 : ∀ z, okS z → f_X9_next (phi z) c = some (-1) := by
      intro z hz
      simp only [f_X9_next, f_X9_isPlusOrMinus, f_X9_nextBeforeDigits, f_X9_nextAmongDigits, f_X9_nextIfDigit, f_X9_isDigit, h6, h7, h1, h2, h3, h4, h5, if_true, if_false, Option.bind_some]
      rcases hz with rfl | rfl | rfl | rfl | rfl | rfl | rfl | rfl | rfl | rfl | rfl <;> rfl
    exact fin (-1) (o12 z hz) (o9 z hz) ⟨Or.inl rfl, fun w => absurd w (by decide), fun w => absurd w (by decide), fun w => absurd w (by decide), fun w => absurd w (by decide), fun w => absurd w (by decide)⟩
  have dig : ∀ z y : Int32, (z = 0 ∧ y = 2) ∨ (z = 1 ∧ y = 2) ∨ (z = 2 ∧ y = 2) ∨ (z = 3 ∧ y = 6) ∨ (z = 4 ∧ y = 6) ∨ (z = 5 ∧ y = 8) ∨ (z = 6 ∧ y = 6) ∨ (z = 7 ∧ y = 8) ∨ (z = 8 ∧ y = 9) ∨ (z = 9 ∧ y = 10) ∨ (z = 10 ∧ y = -1) → f_X12_next z c = some y ∧ f_X9_next (phi z) c = some (phi y) := by
    intro z y hz
    simp only [f_X12_next, b_X12_next_17, b_X12_next_35, b_X12_next_53, b_X12_next_200, b_X12_next_251, f_X9_next, f_X9_isPlusOrMinus, f_X9_nextBeforeDigits, f_X9_nextAmongDigits, f_X9_nextIfDigit, f_X9_isDigit, h6, h7, h1, h2, h3, h4, h5, if_false, Option.bind_some]
    rcases hz with ⟨rfl, rfl⟩ | ⟨rfl, rfl⟩ | ⟨rfl, rfl⟩ | ⟨rfl, rfl⟩ | ⟨rfl, rfl⟩ | ⟨rfl, rfl⟩ | ⟨rfl, rfl⟩ | ⟨rfl, rfl⟩ | ⟨rfl, rfl⟩ | ⟨rfl, rfl⟩ | ⟨rfl, rfl⟩ <;> exact ⟨rfl, rfl⟩
  have pick : ∃ y : Int32, ((z = 0 ∧ y = 2) ∨ (z = 1 ∧ y = 2) ∨ (z = 2 ∧ y = 2) ∨ (z = 3 ∧ y = 6) ∨ (z = 4 ∧ y = 6) ∨ (z = 5 ∧ y = 8) ∨ (z = 6 ∧ y = 6) ∨ (z = 7 ∧ y = 8) ∨ (z = 8 ∧ y = 9) ∨ (z = 9 ∧ y = 10) ∨ (z = 10 ∧ y = -1)) ∧ (y = 2 ∨ y = 6 ∨ y = 8 ∨ y = 9 ∨ y = 10 ∨ y = -1) := by
    rcases hz with rfl | rfl | rfl | rfl | rfl | rfl | rfl | rfl | rfl | rfl | rfl
    · exact ⟨2, by decide, by decide⟩
    · exact ⟨2, by decide, by decide⟩
    · exact ⟨2, by decide, by decide⟩
    · exact ⟨6, by decide, by decide⟩
    · exact ⟨6, by decide, by decide⟩
    · exact ⟨8, by decide, by decide⟩
    · exact ⟨6, by decide, by decide⟩
    · exact ⟨8, by decide, by decide⟩
    · exact ⟨9, by decide, by decide⟩
    · exact ⟨10, by decide, by decide⟩
    · exact ⟨-1, by decide, by decide⟩
  obtain ⟨y, p1, p2⟩ := pick
  obtain ⟨d1, d2⟩ := dig z y p1
  refine fin y d1 d2 ⟨?_, ?_, ?_, fun _ => ⟨h6, h7⟩, ?_, ?_⟩
  · unfold okS
    rcases p2 with rfl | rfl | rfl | rfl | rfl | rfl <;> decide
  · rcases p2 with rfl | rfl | rfl | rfl | rfl | rfl <;> intro w <;> exact absurd w (by decide)
  · rcases p2 with rfl | rfl | rfl | rfl | rfl | rfl <;> intro w <;> exact absurd w (by decide)
  · rcases p2 with rfl | rfl | rfl | rfl | rfl | rfl <;> intro w <;> exact absurd w (by decide)
  · rcases p2 with rfl | rfl | rfl | rfl | rfl | rfl <;> intro w <;> exact absurd w (by decide)
theorem phi_end {z : Int32} (hz : okS z) : (z = 0 ∨ z = 1 ∨ z = 3 ∨ z = 5 ∨ z = 7) ∧ f_X9_isEnd (phi z) = some 0 ∨ ¬ (z = 0 ∨ z = 1 ∨ z = 3 ∨ z = 5 ∨ z = 7) ∧ f_X9_isEnd (phi z) = some 1 := by
  rcases hz with rfl | rfl | rfl | rfl | rfl | rfl | rfl | rfl | rfl | rfl | rfl <;> decide
theorem phi_m1 {z : Int32} (hz : z = -1 ∨ okS z) : phi z = -1 ↔ z = -1 := by
  rcases hz with rfl | rfl | rfl | rfl | rfl | rfl | rfl | rfl | rfl | rfl | rfl | rfl <;> decide
theorem okS_0 {z : Int32} (hz : okS z) : 0 ≤ z ∧ z ≠ -1 := by
  rcases hz with rfl | rfl | rfl | rfl | rfl | rfl | rfl | rfl | rfl | rfl | rfl <;> decide
/-- the states of a text -/
def stT (f : Nat → Int32) : Nat → Int32
  | 0 => 0
  | n + 1 => nx (stT f n) (f n)
theorem fault_loop {mb ni len : Nat} {A : AM} {W : WM} {K : KS} {M : MS} {σ ρ : Sto} (hG : Gk ni A W) (l1 : len ≤ 24) (l2 : K.1 2 0 1 = iI (len : Nat)) (l3 : M.1 7 = iI (len : Nat)) (l4 : ∀ i, i < len → K.1 3 0 i = M.2.1 6 i) (NN NN' N k : Nat) (hk : k ≤ len) (hN : len < N + k) (hz : ∀ j, j ≤ k → okS (stT (M.2.1 6) j)) : ∃ r : Int, lp (fun k e => b_X9_firstFault_4_body NN k e.1 e.2.1 e.2.2.1 e.2.2.2) N (ovk A W K σ, A 2 0, phi (stT (M.2.1 6) k), iI (k : Nat)) = some (iI r) ∧ lp (fun k e => b_X12_faultOf_4_body NN' k e.1 e.2.1 e.2.2.1 e.2.2.2) N (ov mb M ρ, mb, stT (M.2.1 6) k, iI (k : Nat)) = some (iI r) ∧ -1 ≤ r ∧ r ≤ 24 ∧ (r = -1 → ∀ j, j ≤ len → okS (stT (M.2.1 6) j)) ∧ (r = -1 → ¬ (stT (M.2.1 6) len = 0 ∨ stT (M.2.1 6) len = 1 ∨ stT (M.2.1 6) len = 3 ∨ stT (M.2.1 6) len = 5 ∨ stT (M.2.1 6) len = 7)) := by
  induction N generalizing k with
  | zero => omega
  | succ N ih =>
    rw [lp_s, lp_s]
    dsimp only
    unfold b_X9_firstFault_4_body b_X12_faultOf_4_body
    simp only [xI_2_1 hG, oI_7, Option.bind_some, l2, l3]
    have hzk := hz k (Nat.le_refl _)
    by_cases he : len ≤ k
    · have ek : k = len := by omega
      subst ek
      rw [if_pos (Int32.le_refl _), if_pos (Int32.le_refl _)]
      rcases phi_end hzk with ⟨p1, p2⟩ | ⟨p1, p2⟩
      · refine ⟨(k : Nat), ?_, ?_, by omega, by omega, fun w => by omega, fun w => by omega⟩
        · rw [p2, Option.bind_some, if_pos rfl]
        · rcases p1 with p | p | p | p | p <;> rw [p] <;> rfl
      · refine ⟨-1, ?_, ?_, by omega, by omega, fun _ => hz, fun _ => p1⟩
        · rw [p2, Option.bind_some, if_neg (by decide)]; rfl
        · rw [if_neg (fun w => p1 (Or.inl w)), if_neg (fun w => p1 (Or.inr (Or.inl w))), if_neg (fun w => p1 (Or.inr (Or.inr (Or.inl w)))), if_neg (fun w => p1 (Or.inr (Or.inr (Or.inr (Or.inl w))))), if_neg (fun w => p1 (Or.inr (Or.inr (Or.inr (Or.inr w)))))]
          rfl
    · have hk24 : k < 24 := by omega
      have nl : ¬ iI (len : Nat) ≤ iI (k : Nat) := fun w => by rw [jI_le (by omega) (by omega)] at w; omega
      have e1 : inB (iI (k : Nat)) 24 = true := inN hk24 (by decide)
      have e2 : (iI (k : Nat)).toNatClampNeg = k := clN (by omega)
      obtain ⟨n1, n2, n3, -⟩ := nx_all hzk (M.2.1 6 k)
      rw [if_neg nl, if_neg nl]
      simp only [xR_2_0 hG, xA_3 hG, oR_6, oA_6, Option.bind_some, e1, e2, if_true, l4 k (by omega), n1, n2]
      have es : nx (stT (M.2.1 6) k) (M.2.1 6 k) = stT (M.2.1 6) (k + 1) := rfl
      rw [es] at n3 ⊢
      by_cases hm : stT (M.2.1 6) (k + 1) = -1
      · rw [if_pos ((phi_m1 n3).mpr hm), if_neg (by rw [hm]; decide)]
        exact ⟨(k : Nat), rfl, rfl, by omega, by omega, fun w => by omega, fun w => by omega⟩
      · have hok := n3.resolve_left hm
        rw [if_neg (fun w => hm ((phi_m1 n3).mp w)), if_pos (okS_0 hok).1]
        simp only [lt_]
        rw [jI_s]
        exact ih (k + 1) (by omega) (by omega) (fun j hj => by
          by_cases hj2 : j = k + 1
          · rw [hj2]; exact hok
          · exact hz j (by omega))
theorem fault_both {mb ni N : Nat} {A : AM} {W : WM} {K : KS} {M : MS} {σ ρ : Sto} (hG : Gk ni A W) (hT : RT K M) (hN : 100 ≤ N) : ∃ (r : Int) (len : Nat), len ≤ 24 ∧ M.1 7 = iI (len : Nat) ∧ f_X9_firstFault N (ovk A W K σ) (A 2 0) = some (iI r) ∧ f_X12_faultOf N (ov mb M ρ) mb = some (iI r) ∧ -1 ≤ r ∧ r ≤ 24 ∧ (r = -1 → ∀ j, j ≤ len → okS (stT (M.2.1 6) j)) ∧ (r = -1 → ¬ (stT (M.2.1 6) len = 0 ∨ stT (M.2.1 6) len = 1 ∨ stT (M.2.1 6) len = 3 ∨ stT (M.2.1 6) len = 5 ∨ stT (M.2.1 6) len = 7)) := by
  obtain ⟨len, l1, l2, l3, l4⟩ := hT
  obtain ⟨r, h1, h2, h3⟩ := fault_loop (mb := mb) (σ := σ) (ρ := ρ) hG l1 l2 l3 l4 N N N 0 (by omega) (by omega) (fun j hj => by rw [show j = 0 by omega]; exact Or.inl rfl)
  exact ⟨r, len, l1, l3, h1, h2, h3⟩
theorem p_fault {xb mb ob N : Nat} (hN : 1000 ≤ N) : A_fault (I0 xb mb ob) N xb mb ob := by
  refine agr_in (fun n σ sz ni A W K M hn hA ho hC hR hF => ?_)
  subst hA
  have hT : RT K (uI M 8 0) := hR.2.1
  obtain ⟨r, len, -, -, h1, -, -⟩ := fault_both (mb := mb) (σ := σ) (ρ := σ) (N := N) hC.1 hT (by omega)
  refine ⟨iI r, uI M 8 0, ?_, fun ρ => ?_, Sd.u8⟩
  · have key : f_X11_fault N (ovk A W K σ) (A 0 0) = some (iI r) := by
      simp only [f_X11_fault, xR_0_1 hC.1, xO_2 hC.1, Option.bind_some, h1]
    rw [hC.eqk] at key
    exact key
  · obtain ⟨r', len', -, -, g1, g2, -⟩ := fault_both (mb := mb) (σ := σ) (ρ := ρ) (N := N) hC.1 hT (by omega)
    rw [h1] at g1
    simp only [f_X12_fault, oP_8, ov_isO, Option.bind_some, g2, Option.some.inj g1]
