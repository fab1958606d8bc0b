/-! ===== the reference's rows of digits: what number they hold ===== -/
theorem ite_b {α β : Type} {c : Prop} {d : Decidable c} {x : α} {f : α → Option β} (h : c) : (@ite (Option α) c d (some x) none).bind f = f x := by rw [if_pos h]; rfl
theorem m_digit_raw {mb : Nat} {M : MS} {σ : Sto} {r k n : Nat} (hr : r < 10) (hk : k < 240) (hn : n ≤ 240) (h : M.2.1 1 r = iI n) : f_X12_digit (ov mb M σ) mb (iI r) (iI k) = some (if n ≤ k then 0 else M.2.1 0 (240 * r + k)) := by
  have e1 : inB (iI r) 10 = true := (iI_inB ⟨by omega, by omega⟩).mpr ⟨by omega, by omega⟩
  have e2 : (iI r).toNatClampNeg = r := by rw [iI_cl ⟨by omega, by omega⟩]; rfl
  have e3 : (240 : Int32) * iI r + iI k = iI ((240 * r + k : Nat) : Int) := by
    rw [iI_lit 240, iI_mul, iI_add]
    congr 1
  have e4 : inB (iI ((240 * r + k : Nat) : Int)) 2400 = true := (iI_inB ⟨by omega, by omega⟩).mpr ⟨by omega, by omega⟩
  have e5 : (iI ((240 * r + k : Nat) : Int)).toNatClampNeg = 240 * r + k := by rw [iI_cl ⟨by omega, by omega⟩]; rfl
  unfold f_X12_digit
  simp only [oR_1, oA_1, oR_0, oA_0, Option.bind_some, e1, e2, e3, e4, e5, if_true, h]
  by_cases hc : n ≤ k
  · rw [if_pos ((iI_le ⟨by omega, by omega⟩ ⟨by omega, by omega⟩).mpr (by omega)), if_pos hc]
  · rw [if_neg (fun q => hc (by have := (iI_le ⟨by omega, by omega⟩ ⟨by omega, by omega⟩).mp q; omega)), if_neg hc]
theorem m_adds_raw {mb : Nat} {M : MS} {σ : Sto} {r n : Nat} {d : Int32} (hr : r < 10) (hn : n < 240) (h : M.2.1 1 r = iI n) : f_X12_adds (ov mb M σ) mb (iI r) d = some ((), ov mb (uA (uA M 0 (240 * r + n) d) 1 r (iI (n + 1 : Nat))) σ) := by
  have e1 : inB (iI r) 10 = true := (iI_inB ⟨by omega, by omega⟩).mpr ⟨by omega, by omega⟩
  have e2 : (iI r).toNatClampNeg = r := by rw [iI_cl ⟨by omega, by omega⟩]; rfl
  have e3 : (240 : Int32) * iI r + iI n = iI ((240 * r + n : Nat) : Int) := by
    rw [iI_lit 240, iI_mul, iI_add]
    congr 1
  have e4 : inB (iI ((240 * r + n : Nat) : Int)) 2400 = true := (iI_inB ⟨by omega, by omega⟩).mpr ⟨by omega, by omega⟩
  have e5 : (iI ((240 * r + n : Nat) : Int)).toNatClampNeg = 240 * r + n := by rw [iI_cl ⟨by omega, by omega⟩]; rfl
  have e6 : iI n + 1 = iI ((n + 1 : Nat) : Int) := by
    rw [iI_lit 1, iI_add]
    congr 1
  have e7 : (uA M 0 (240 * r + n) d).2.1 1 r = iI n := by
    simp only [uA]
    rw [va_up_ne _ _ (by decide), h]
  unfold f_X12_adds
  simp only [oR_1, oA_1, oR_0, oA_0, oS_0, oS_1, Option.bind_some, e1, e2, e3, e4, e5, if_true, h, e6, e7]
