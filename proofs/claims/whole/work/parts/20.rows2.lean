/-! ===== the reference's rows of digits: what number they hold ===== -/
theorem ite_b {α β : Type} {c : Prop} {d : Decidable c} {x : α} {f : α → Option β} (h : c) : (@ite (Option α) c d (some x) none).bind f = f x := by rw [if_pos h]; rfl
theorem m_digit_raw {mb : Nat} {M : MS} {σ : Sto} {r k n : Nat} (hr : r < 10) (hk : k < 240) (hn : n ≤ 240) (h : M.2.1 1 r = iI n) : f_X12_digit (ov mb M σ) mb (iI r) (iI k) = some (if n ≤ k then 0 else M.2.1 0 (240 * r + k)) := by
  have e1 : inB (iI r) 10 = true := (iI_inB ⟨by omega, by omega⟩).mpr ⟨by omega, by omega⟩
  have e2 : (iI r).toNatClampNeg = r := by rw [iI_cl ⟨by omega, by omega⟩]; rfl
  have e3 : (240 : Int32) * iI r + iI k = iI ((240 * r + k : Nat) : Int) := by
    rw [iI_lit 240, iI_mul, iI_add]
    congr 1
  have e4 : inB (iI ((240 * r + k : Nat) : Int)) 2400 = true := (iI_inB ⟨by omega, by omega⟩).mpr ⟨by omega, by omega⟩
  have e5 : (iI ((240 * r + k : Nat) : Int)).toNatClampNeg = 240 * r + k := by rw [iI_cl ⟨by omega, by omega⟩]; rfl
  unfold f_X12_digit
  simp only [oR_1, oA_1, oR_0, oA_0, Option.bind_some, e1, e2, e3, e4, e5, if_true, h]
  by_cases hc : n ≤ k
  · rw [if_pos ((iI_le ⟨by omega, by omega⟩ ⟨by omega, by omega⟩).mpr (by omega)), if_pos hc]
  · rw [if_neg (fun q => hc (by have := (iI_le ⟨by omega, by omega⟩ ⟨by omega, by omega⟩).mp q; omega)), if_neg hc]
theorem m_adds_raw {mb : Nat} {M : MS} {σ : Sto} {r n : Nat} {d : Int32} (hr : r < 10) (hn : n < 240) (h : M.2.1 1 r = iI n) : f_X12_adds (ov mb M σ) mb (iI r) d = some ((), ov mb (uA (uA M 0 (240 * r + n) d) 1 r (iI (n + 1 : Nat))) σ) := by
  have e1 : inB (iI r) 10 = true := (iI_inB ⟨by omega, by omega⟩).mpr ⟨by omega, by omega⟩
  have e2 : (iI r).toNatClampNeg = r := by rw [iI_cl ⟨by omega, by omega⟩]; rfl
  have e3 : (240 : Int32) * iI r + iI n = iI ((240 * r + n : Nat) : Int) := by
    rw [iI_lit 240, iI_mul, iI_add]
    congr 1
  have e4 : inB (iI ((240 * r + n : Nat) : Int)) 2400 = true := (iI_inB ⟨by omega, by omega⟩).mpr ⟨by omega, by omega⟩
  have e5 : (iI ((240 * r + n : Nat) : Int)).toNatClampNeg = 240 * r + n := by rw [iI_cl ⟨by omega, by omega⟩]; rfl
  have e6 : iI n + 1 = iI ((n + 1 : Nat) : Int) := by
    rw [iI_lit 1, iI_add]
    congr 1
  have e7 : (uA M 0 (240 * r + n) d).2.1 1 r = iI n := by
    simp only [uA]
    rw [va_up_ne _ _ (by decide), h]
  unfold f_X12_adds
  simp only [oR_1, oA_1, oR_0, oA_0, oS_0, oS_1, Option.bind_some, e1, e2, e3, e4, e5, if_true, h, e6, e7]
/-- how many digits a number has; 0 has none -/
def nd (v : Nat) : Nat := if h : v = 0 then 0 else nd (v / 10) + 1
termination_by v
decreasing_by omega
theorem nd_0 : nd 0 = 0 := by rw [nd]; rfl
theorem nd_s {v : Nat} (h : v ≠ 0) : nd v = nd (v / 10) + 1 := by rw [nd, dif_neg h]
theorem nd_le {v : Nat} : ∀ {n : Nat}, v < 10 ^ n ↔ nd v ≤ n := by
  intro n
  induction n generalizing v with
  | zero =>
    by_cases h : v = 0
    · subst h; rw [nd_0]; simp
    · rw [nd_s h]; simp; omega
  | succ n ih =>
    by_cases h : v = 0
    · subst h; rw [nd_0]; simp; exact Nat.pos_of_ne_zero (by simp)
    · rw [nd_s h, Nat.pow_succ]
      have := ih (v := v / 10)
      omega
theorem nd_lt {v n : Nat} : n < nd v ↔ 10 ^ n ≤ v := by
  have := nd_le (v := v) (n := n)
  omega
theorem nd_eq {v n : Nat} (h1 : v < 10 ^ n) (h2 : n = 0 ∨ 10 ^ (n - 1) ≤ v) : nd v = n := by
  have h3 := nd_le.mp h1
  rcases h2 with rfl | h2
  · omega
  · have := nd_lt.mpr h2
    omega
/-- row r holds the number v -/
def Hv (M : MS) (r v : Nat) : Prop := M.2.1 1 r = iI (nd v : Nat) ∧ nd v ≤ 240 ∧ ∀ k, k < nd v → M.2.1 0 (240 * r + k) = iI ((v / 10 ^ k % 10 : Nat) : Int)
/-- the same but for the rows rs -/
def Sf (rs : List Nat) (M M' : MS) : Prop := M'.1 = M.1 ∧ M'.2.2 = M.2.2 ∧ (∀ k, k ≠ 0 → k ≠ 1 → M'.2.1 k = M.2.1 k) ∧ ∀ r, r ∉ rs → M'.2.1 1 r = M.2.1 1 r ∧ ∀ k, k < 240 → M'.2.1 0 (240 * r + k) = M.2.1 0 (240 * r + k)
theorem Sf.rf {rs : List Nat} {M : MS} : Sf rs M M := ⟨rfl, rfl, fun _ _ _ => rfl, fun _ _ => ⟨rfl, fun _ _ => rfl⟩⟩
theorem Sf.tr {rs : List Nat} {M M' M'' : MS} (h : Sf rs M M') (h' : Sf rs M' M'') : Sf rs M M'' :=
  ⟨h'.1.trans h.1, h'.2.1.trans h.2.1, fun k a b => (h'.2.2.1 k a b).trans (h.2.2.1 k a b), fun r hr => ⟨(h'.2.2.2 r hr).1.trans (h.2.2.2 r hr).1, fun k hk => ((h'.2.2.2 r hr).2 k hk).trans ((h.2.2.2 r hr).2 k hk)⟩⟩
theorem Sf.mono {rs rs' : List Nat} {M M' : MS} (h : Sf rs M M') (hs : ∀ r, r ∈ rs → r ∈ rs') : Sf rs' M M' := ⟨h.1, h.2.1, h.2.2.1, fun r hr => h.2.2.2 r (fun q => hr (hs r q))⟩
theorem Sf.Hv {rs : List Nat} {M M' : MS} {r v : Nat} (h : Sf rs M M') (hr : r ∉ rs) (hv : Hv M r v) : Hv M' r v := by
  obtain ⟨h1, h2, h3⟩ := hv
  obtain ⟨g1, g2⟩ := h.2.2.2 r hr
  exact ⟨g1.trans h1, h2, fun k hk => (g2 k (by omega)).trans (h3 k hk)⟩
theorem Sf.many {M : MS} {r : Nat} {v : Int32} : Sf [r] M (uA M 1 r v) := by
  refine ⟨rfl, rfl, fun k h0 h1 => va_up_ne _ _ h1, fun q hq => ⟨?_, fun k hk => ?_⟩⟩
  · show va_up M.2.1 1 (va_up (M.2.1 1) r v) 1 q = _
    rw [va_up_self, va_up_ne _ _ (by simpa using hq)]
  · show va_up M.2.1 1 (va_up (M.2.1 1) r v) 0 _ = _
    rw [va_up_ne _ _ (by decide)]
theorem Sf.dig {M : MS} {r j : Nat} {v : Int32} (hj : j < 240) : Sf [r] M (uA M 0 (240 * r + j) v) := by
  refine ⟨rfl, rfl, fun k h0 h1 => va_up_ne _ _ h0, fun q hq => ⟨?_, fun k hk => ?_⟩⟩
  · show va_up M.2.1 0 (va_up (M.2.1 0) (240 * r + j) v) 1 _ = _
    rw [va_up_ne _ _ (by decide)]
  · show va_up M.2.1 0 (va_up (M.2.1 0) _ v) 0 _ = _
    have : q ≠ r := by simpa using hq
    rw [va_up_self, va_up_ne _ _ (by omega)]
theorem uA_same {M : MS} {k i : Nat} {v : Int32} : (uA M k i v).2.1 k i = v := by simp [uA, va_up_self]
theorem uA_ne {M : MS} {k i j : Nat} {v : Int32} (h : j ≠ i) : (uA M k i v).2.1 k j = M.2.1 k j := by simp [uA, va_up_self, va_up_ne _ _ h]
theorem uA_nk {M : MS} {k k' i j : Nat} {v : Int32} (h : k' ≠ k) : (uA M k i v).2.1 k' j = M.2.1 k' j := by simp [uA, va_up_ne _ _ h]
theorem m_digit {mb : Nat} {M : MS} {σ : Sto} {r k v : Nat} (hr : r < 10) (hk : k < 240) (h : Hv M r v) : f_X12_digit (ov mb M σ) mb (iI r) (iI k) = some (iI ((v / 10 ^ k % 10 : Nat) : Int)) := by
  rw [m_digit_raw hr hk h.2.1 h.1]
  by_cases hc : nd v ≤ k
  · rw [if_pos hc, Nat.div_eq_of_lt (nd_le.mpr hc)]
    rfl
  · rw [if_neg hc, h.2.2 k (by omega)]
theorem m_lets_loop {mb : Nat} {M0 : MS} {σ : Sto} {r w : Nat} (hr : r < 10) (hw : w < 9223372036854775808) (N : Nat) (M : MS) (i : Nat) (hN : nd w < N + i) (hi : i ≤ nd w) (hS : Sf [r] M0 M) (hm : M.2.1 1 r = iI i) (hd : ∀ k, k < i → M.2.1 0 (240 * r + k) = iI ((w / 10 ^ k % 10 : Nat) : Int)) :
    ∃ M', b_X12_lets_21 N (ov mb M σ) mb (iI r) (iL ((w / 10 ^ i : Nat) : Int)) = some ((), ov mb M' σ) ∧ Sf [r] M0 M' ∧ Hv M' r w := by
  have hnd : nd w ≤ 19 := nd_le.mp (by omega)
  induction N generalizing M i with
  | zero => omega
  | succ N ih =>
    unfold b_X12_lets_21
    rw [lp_s]
    dsimp only
    unfold b_X12_lets_21_body
    by_cases h0 : w / 10 ^ i = 0
    · rw [if_pos (by rw [h0]; decide)]
      have hle : w < 10 ^ i := by
        rcases Nat.div_eq_zero_iff.mp h0 with h | h
        · exact absurd h (Nat.pos_iff_ne_zero.mp (Nat.pow_pos (by decide)))
        · exact h
      have e : nd w = i := by
        have := nd_le.mp hle
        omega
      exact ⟨M, rfl, hS, by rw [e]; exact hm, by omega, fun k hk => hd k (by omega)⟩
    · have hb : w / 10 ^ i < 9223372036854775808 := Nat.lt_of_le_of_lt (Nat.div_le_self _ _) hw
      have hlt : i < nd w := by
        refine nd_lt.mpr (Nat.not_lt.mp fun q => h0 (Nat.div_eq_of_lt q))
      have e2 : w / 10 ^ (i + 1) = w / 10 ^ i / 10 := by rw [Nat.pow_succ, ← Nat.div_div_eq_div_mul]
      have ih := fun M' a b c d e => ih M' (i + 1) a b c d e
      rw [e2] at ih
      generalize hu : w / 10 ^ i = u at h0 hb ih ⊢
      rw [if_neg (fun q => h0 (by
        rw [iL_lit 0, iL_le ⟨by omega, by omega⟩ ⟨by decide, by decide⟩] at q
        omega))]
      rw [iL_lit 10, iL_md ⟨by omega, by omega⟩ ⟨by decide, by decide⟩, iL_dv ⟨by omega, by omega⟩ ⟨by decide, by decide⟩, iL_iI, ov_isO, Option.bind_some, m_adds_raw hr (by omega) hm]
      refine ih _ (by omega) (by omega) ((hS.tr (Sf.dig (by omega))).tr Sf.many) uA_same (fun k hk => ?_)
      rw [uA_nk (by decide)]
      by_cases hki : k = i
      · subst hki
        rw [uA_same, hu]
        exact congrArg iI (by omega)
      · rw [uA_ne (by omega)]
        exact hd k (by omega)
theorem m_lets {mb : Nat} {M : MS} {σ : Sto} {r N : Nat} {z : Int} (hr : r < 10) (hz : -9223372036854775808 < z ∧ z < 9223372036854775808) (hN : 30 ≤ N) :
    ∃ M', f_X12_lets N (ov mb M σ) mb (iI r) (iL z) = some ((), ov mb M' σ) ∧ Sf [r] M M' ∧ Hv M' r z.natAbs := by
  have e1 : inB (iI r) 10 = true := (iI_inB ⟨by omega, by omega⟩).mpr ⟨by omega, by omega⟩
  have e2 : (iI r).toNatClampNeg = r := by rw [iI_cl ⟨by omega, by omega⟩]; rfl
  have hnd : nd z.natAbs ≤ 19 := nd_le.mp (by omega)
  have key := m_lets_loop (mb := mb) (M0 := M) (σ := σ) (w := z.natAbs) hr (by omega) N (uA M 1 r 0) 0 (by omega) (by omega) Sf.many uA_same (fun k hk => absurd hk (by omega))
  rw [Nat.pow_zero, Nat.div_one] at key
  unfold f_X12_lets
  simp only [oR_1, oS_1, Option.bind_some, e1, e2, if_true]
  unfold b_X12_lets_19
  by_cases h0 : 0 ≤ z
  · rw [if_pos (by rw [iL_lit 0, iL_le ⟨by decide, by decide⟩ ⟨by omega, by omega⟩]; exact h0)]
    rw [show z = ((z.natAbs : Nat) : Int) by omega]
    rw [Int.natAbs_natCast]
    exact key
  · rw [if_neg (by rw [iL_lit 0, iL_le ⟨by decide, by decide⟩ ⟨by omega, by omega⟩]; exact h0)]
    rw [iL_neg, show -z = ((z.natAbs : Nat) : Int) by omega]
    exact key
