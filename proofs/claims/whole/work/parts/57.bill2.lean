/-! ===== bills of the reference ===== -/
/-- scratch apart, what was told kept, and whether something was refused -/
def Sx (b : Bool) (M M' : MS) : Prop := Sd M M' ∧ M'.1 8 = M.1 8 ∧ M'.1 2 = bI b
section BJ
variable {mb ni i lc cur N : Nat} {by_ b : Bool} {m : Int32} {E T : Nat → Nat} {A : AM} {W : WM} {K : KS} {M : MS} {σ : Sto}
theorem Sx.tr {b' : Bool} {M M' M'' : MS} (h : Sx b M M') (h' : Sx b' M' M'') : Sx b' M M'' := ⟨h.1.tr h'.1, h'.2.1.trans h.2.1, h'.2.2⟩
theorem m_part (hB : Bm i lc cur by_ m E T M) (hi : i < 20) (hc : cur < 4) (hf : M.1 2 = bI b) {a f d : Nat} (ha : a < 9223372036854775808) (hf2 : f < 2147483648) (hd0 : 0 < d) (hd : d < 9223372036854775808) (hN : 1000 ≤ N) : ∃ M', f_X12_part N (ov mb M σ) mb (iL (a : Nat)) (iI (f : Nat)) (iL (d : Nat)) (iI (i : Nat)) = some (iL (rq false m (a * f) d : Nat), ov mb M' σ) ∧ Sx (b || fl m (a * f) d) M M' := by
  have bb2 : ∀ {α β γ : Type} (x : α) (y : β) (f : α → β → Option γ), b2 (some (x, y)) f = f x y := fun _ _ _ => rfl
  obtain ⟨M1, f1, f2, f3⟩ := m_lets (mb := mb) (M := M) (σ := σ) (r := 0) (z := (a : Nat)) (N := N) (by decide) ⟨by omega, by omega⟩ (by omega)
  obtain ⟨M2, g1, g2, g3⟩ := m_lets (mb := mb) (M := M1) (σ := σ) (r := 5) (z := (f : Nat)) (N := N) (by decide) ⟨by omega, by omega⟩ (by omega)
  rw [Int.natAbs_natCast] at f3 g3
  have n1 : nd a ≤ 19 := nd_le.mp (by omega)
  have n2 : nd f ≤ 10 := nd_le.mp (by omega)
  obtain ⟨M3, h1, h2, h3⟩ := m_times (mb := mb) (M := M2) (σ := σ) (a := 0) (b := 5) (N := N) (by decide) (by decide) (by decide) (g2.Hv (r := 0) (by decide) f3) g3 (by omega) (by omega)
  obtain ⟨M4, k1, k2, k3⟩ := m_lets (mb := mb) (M := M3) (σ := σ) (r := 1) (z := (d : Nat)) (N := N) (by decide) ⟨by omega, by omega⟩ (by omega)
  rw [Int.natAbs_natCast] at k3
  have n3 : nd (a * f) ≤ 29 := by have := nd_mul a f; omega
  have n4 : nd d ≤ 19 := nd_le.mp (by omega)
  have S4 : Sc M M4 := ((f2.sc.tr g2.sc).tr h2.sc).tr k2.sc
  have f4 : M4.1 2 = bI b := by rw [k2.1, h2.1, g2.1, f2.1]; exact hf
  have f5 : M4.1 2 = 0 ∨ M4.1 2 = 1 := by
    rw [f4]
    cases b with
    | false => exact Or.inl rfl
    | true => exact Or.inr rfl
  obtain ⟨M5, q1, q2, q3, q4⟩ := m_rounds (mb := mb) (M := M4) (σ := σ) (neg := false) (m := m) (N := N) (k2.Hv (r := 0) (by decide) h3) k3 hd0 (by omega) (by omega) f5 (by omega)
  have hB4 := hB.sd S4.sd
  obtain ⟨c1, -, -, c4, -⟩ := hB4
  refine ⟨M5, ?_, (S4.tr q2).sd, (S4.tr q2).1 8 (by decide), ?_⟩
  · have e1 : f_X12_lets N (ov mb M σ) mb 0 (iL (a : Nat)) = some ((), ov mb M1 σ) := f1
    have e2 : f_X12_lets N (ov mb M1 σ) mb 5 (iL (f : Nat)) = some ((), ov mb M2 σ) := g1
    have e3 : f_X12_times N (ov mb M2 σ) mb 0 5 = some ((), ov mb M3 σ) := h1
    have e4 : f_X12_lets N (ov mb M3 σ) mb 1 (iL (d : Nat)) = some ((), ov mb M4 σ) := k1
    have e5 : f_X12_rounds N (ov mb M4 σ) mb 0 m = some ((), ov mb M5 σ) := q1
    have v2 : f_X12_value N (ov mb M5 σ) mb 2 = some (iL (rq false m (a * f) d : Nat)) := m_value_loop (a := 2) (by decide) q4 (by omega)
    unfold f_X12_part
    rw [ov_isO, Option.bind_some, e1, bb2, ov_isO, Option.bind_some, iI_iL ⟨by omega, by omega⟩, e2, bb2, ov_isO, Option.bind_some, e3, bb2, ov_isO, Option.bind_some, e4, bb2, oR_11, Option.bind_some, oR_23, Option.bind_some, oA_23, inN hi (by decide), if_pos rfl, clN (by omega), Option.bind_some, c1, oA_11, inN hc (by decide), if_pos rfl, clN (by omega), Option.bind_some, c4, ov_isO, Option.bind_some, e5, bb2, ov_isO, Option.bind_some, v2, Option.bind_some]
  · rw [q3, f4]
    unfold fl
    by_cases h : a * f % d ≠ 0 ∧ m = 110
    · rw [if_pos h, decide_eq_true h]; cases b <;> rfl
    · rw [if_neg h, decide_eq_false h]; cases b <;> rfl
theorem m_rnet (hB : Bm i lc cur by_ m E T M) (hi : i < 20) (hc : cur < 4) (hf : M.1 2 = bI b) {a : Nat} (ha : a < 9223372036854775808) (hN : 1000 ≤ N) : ∃ M', f_X12_roundedNet N (ov mb M σ) mb (iL (a : Nat)) (iI (i : Nat)) = some (iL (rq false m a 1000000 : Nat), ov mb M' σ) ∧ Sx (b || fl m a 1000000) M M' := by
  obtain ⟨M', h1, h2⟩ := m_part (mb := mb) (σ := σ) (a := a) (f := 1) (d := 1000000) (N := N) hB hi hc hf ha (by decide) (by decide) (by decide) hN
  rw [Nat.mul_one] at h1 h2
  refine ⟨M', ?_, h2⟩
  have h1' : f_X12_part N (ov mb M σ) mb (iL (a : Nat)) 1 1000000 (iI (i : Nat)) = some (iL (rq false m a 1000000 : Nat), ov mb M' σ) := h1
  unfold f_X12_roundedNet
  rw [ov_isO, Option.bind_some, h1']
  rfl
def nacc (by_ : Bool) (m : Int32) (E : Nat → Nat) (k : Nat) : Nat := if by_ = true then sN (nG m E) k else 0
def nflg (by_ : Bool) (m : Int32) (E : Nat → Nat) (k : Nat) : Bool := if by_ = true then aB (nF m E) k else false
theorem m_netOf (hB : Bm i lc cur by_ m E T M) (hE : ∀ j, j < lc → E j ≤ 9999999 * 999999 * 1000) (hi : i < 20) (hc : cur < 4) (hlc : lc ≤ 12) (hf : M.1 2 = bI b) (hN : 1000 ≤ N) : ∃ M', f_X12_netOf N (ov mb M σ) mb (iI (i : Nat)) = some (iL (netV by_ m E lc : Nat), ov mb M' σ) ∧ Sx (b || netP by_ m E lc) M M' := by
  have bb2 : ∀ {α β γ : Type} (x : α) (y : β) (f : α → β → Option γ), b2 (some (x, y)) f = f x y := fun _ _ _ => rfl
  have i20 : inB (iI (i : Nat)) 20 = true := inN hi (by decide)
  have k20 : (iI (i : Nat)).toNatClampNeg = i := clN (by omega)
  have hs : sN E lc ≤ 9999999 * 999999 * 1000 * lc := sN_le hE
  unfold f_X12_netOf b_X12_netOf_8
  refine lp_ex (n := lc) (Inv := fun k a => ∃ M', a = (ov mb M' σ, mb, iI (i : Nat), iL (nacc by_ m E k : Nat), iL (sN E k : Nat), iI (k : Nat)) ∧ Sx (b || nflg by_ m E k) M M') (Post := fun r => ∃ M', r = some (iL (netV by_ m E lc : Nat), ov mb M' σ) ∧ Sx (b || netP by_ m E lc) M M') (fun k a hk hI => ?_) (fun a hI KK => ?_) N 0 _ (Nat.zero_le _) (by omega) ⟨M, ?_, Sd.rf, rfl, ?_⟩
  · obtain ⟨M', rfl, hS⟩ := hI
    have hB' := hB.sd hS.1
    obtain ⟨c1, c2, c3, c4, c5⟩ := hB'
    obtain ⟨d1, d2⟩ := c5 k hk
    have i240 : inB (iI ((12 * i + k : Nat) : Int)) 240 = true := inN (by omega) (by decide)
    have k240 : (iI ((12 * i + k : Nat) : Int)).toNatClampNeg = 12 * i + k := clN (by omega)
    have e12 : (12 : Int32) * iI (i : Nat) + iI (k : Nat) = iI ((12 * i + k : Nat) : Int) := by rw [iI_lit 12, jI_mul, jI_add]
    have hle : ¬ iI (lc : Nat) ≤ iI (k : Nat) := fun w => by rw [jI_le (by omega) (by omega)] at w; omega
    cases by_ with
    | false =>
      refine ⟨(ov mb M' σ, mb, iI (i : Nat), iL (nacc false m E (k + 1) : Nat), iL (sN E (k + 1) : Nat), iI ((k + 1 : Nat) : Int)), ⟨M', rfl, hS⟩, fun KK => ?_⟩
      have c3' : M'.2.1 25 i = 0 := c3
      dsimp only
      unfold b_X12_netOf_8_body b_X12_netOf_67
      simp only [oR_24, oR_25, oR_27, oA_24, oA_25, oA_27, i20, k20, e12, i240, k240, if_true, Option.bind_some, c2, if_neg hle, c3', d1, lt_, jL_add, jI_s]
      rw [iL_lit 0, jL_add]
      rfl
    | true =>
      obtain ⟨M2, g1, g2⟩ := m_rnet (mb := mb) (σ := σ) (N := N) (a := E k) (hB.sd hS.1) hi hc hS.2.2 (by have := hE k hk; omega) hN
      refine ⟨(ov mb M2 σ, mb, iI (i : Nat), iL (nacc true m E (k + 1) : Nat), iL (sN E (k + 1) : Nat), iI ((k + 1 : Nat) : Int)), ⟨M2, rfl, ?_⟩, fun KK => ?_⟩
      · have : (b || nflg true m E (k + 1)) = ((b || nflg true m E k) || fl m (E k) 1000000) := (Bool.or_assoc _ _ _).symm
        rw [this]
        exact hS.tr g2
      · have c3' : ¬ M'.2.1 25 i = 0 := by rw [c3]; decide
        dsimp only
        unfold b_X12_netOf_8_body b_X12_netOf_67
        simp only [oR_24, oR_25, oR_27, oA_24, oA_25, oA_27, i20, k20, e12, i240, k240, if_true, Option.bind_some, c2, if_neg hle, if_neg c3', d1, lt_, jL_add, jI_s, ov_isO, g1, bb2]
        rfl
  · obtain ⟨M', rfl, hS⟩ := hI
    have hB' := hB.sd hS.1
    obtain ⟨c1, c2, c3, c4, c5⟩ := hB'
    have hle : iI (lc : Nat) ≤ iI (lc : Nat) := by rw [jI_le (by omega) (by omega)]; omega
    cases by_ with
    | false =>
      obtain ⟨M2, g1, g2⟩ := m_rnet (mb := mb) (σ := σ) (N := N) (a := sN E lc) (hB.sd hS.1) hi hc hS.2.2 (by omega) hN
      refine ⟨M2, ?_, ?_⟩
      · have c3' : M'.2.1 25 i = 0 := c3
        dsimp only
        unfold b_X12_netOf_8_body
        simp only [oR_24, oR_25, oA_24, oA_25, i20, k20, if_true, Option.bind_some, c2, if_pos hle, c3', ov_isO, g1, bb2]
        rfl
      · have : (b || netP false m E lc) = ((b || nflg false m E lc) || fl m (sN E lc) 1000000) := by
          rw [netP_f, show nflg false m E lc = false from rfl, Bool.or_false]
        rw [this]
        exact hS.tr g2
    | true =>
      refine ⟨M', ?_, hS⟩
      have c3' : ¬ M'.2.1 25 i = 0 := by rw [c3]; decide
      dsimp only
      unfold b_X12_netOf_8_body
      simp only [oR_24, oR_25, oA_24, oA_25, i20, k20, if_true, Option.bind_some, c2, if_pos hle, if_neg c3']
      rfl
  · cases by_ <;> rfl
  · cases by_ <;> exact hf.trans (by cases b <;> rfl)
theorem bI_and {a b : Bool} : bI a &&& bI b = bI (a && b) := by cases a <;> cases b <;> rfl
theorem m_like (hB : Bm i lc cur by_ m E T M) (hT : ∀ j, j < lc → T j ≤ 9999) (hi : i < 20) (hlc : lc ≤ 12) (hN : 1000 ≤ N) {j : Nat} (hj : j < lc) {acc : Int64} {s : Bool} (k5 : Sto × Nat × Int32 × Int64 × Int32 → Option (Int64 × Sto)) : b_X12_taxesOf_90 N k5 (ov mb M σ) mb (iI (i : Nat)) acc (iI (j : Nat)) (iI (T j : Nat)) (bI s) 0 0 = if (s && !aB (alk T j) lc) = false then k5 (ov mb M σ, mb, iI (i : Nat), acc, iI ((j + 1 : Nat) : Int)) else b2 (f_X12_part N (ov mb M σ) mb (iL (sN (lik E T j) lc : Nat)) (iI (T j : Nat)) 10000000000 (iI (i : Nat))) fun x6 τ7 => k5 (τ7, mb, iI (i : Nat), acc + x6, iI ((j + 1 : Nat) : Int)) := by
  obtain ⟨c1, c2, c3, c4, c5⟩ := hB
  have i20 : inB (iI (i : Nat)) 20 = true := inN hi (by decide)
  have k20 : (iI (i : Nat)).toNatClampNeg = i := clN (by omega)
  unfold b_X12_taxesOf_90
  have e0 : bI s = bI (s && !aB (alk T j) 0) := by cases s <;> rfl
  rw [e0]
  refine lp_for (n := lc) (st := fun k => (ov mb M σ, mb, iI (i : Nat), acc, iI (j : Nat), iI (T j : Nat), bI (s && !aB (alk T j) k), iL (sN (lik E T j) k : Nat), iI (k : Nat))) (fun k hk KK => ?_) (fun KK => ?_) N 0 (Nat.zero_le _) (by omega)
  · dsimp only
    obtain ⟨d1, d2⟩ := c5 k hk
    have i240 : inB (iI ((12 * i + k : Nat) : Int)) 240 = true := inN (by omega) (by decide)
    have k240 : (iI ((12 * i + k : Nat) : Int)).toNatClampNeg = 12 * i + k := clN (by omega)
    have e12 : (12 : Int32) * iI (i : Nat) + iI (k : Nat) = iI ((12 * i + k : Nat) : Int) := by rw [iI_lit 12, jI_mul, jI_add]
    have hle : ¬ iI (lc : Nat) ≤ iI (k : Nat) := fun w => by rw [jI_le (by omega) (by omega)] at w; omega
    have ek : iI (T k : Nat) = iI (T j : Nat) ↔ T k = T j := by
      have t1 := hT k hk
      have t2 := hT j hj
      exact jI_eq (by omega) (by omega)
    have el : iI (k : Nat) < iI (j : Nat) ↔ k < j := jI_lt (by omega) (by omega)
    unfold b_X12_taxesOf_90_body b_X12_taxesOf_135 b_X12_taxesOf_155
    simp only [oR_24, oR_28, oR_27, oA_24, oA_28, oA_27, i20, k20, e12, i240, k240, if_true, Option.bind_some, c2, if_neg hle, d1, d2, lt_, jI_s, ek, el, jL_add]
    show _ = KK (ov mb M σ, mb, iI (i : Nat), acc, iI (j : Nat), iI (T j : Nat), bI (s && !(aB (alk T j) k || alk T j k)), iL ((sN (lik E T j) k + lik E T j k : Nat) : Int), iI ((k + 1 : Nat) : Int))
    by_cases h : T k = T j
    · rw [if_pos h, show lik E T j k = E k from if_pos h]
      by_cases h2 : k < j
      · have e : alk T j k = true := by unfold alk; exact decide_eq_true ⟨h, h2⟩
        rw [if_pos h2, e, Bool.or_true, show (0 : Int32) = bI false from rfl, bI_and]
        rw [Bool.and_false]
        simp
      · have e : alk T j k = false := by unfold alk; exact decide_eq_false (fun w => h2 w.2)
        rw [if_neg h2, e, Bool.or_false, show (1 : Int32) = bI true from rfl, bI_and, Bool.and_true]
    · have e : alk T j k = false := by unfold alk; exact decide_eq_false (fun w => h w.1)
      rw [if_neg h, show lik E T j k = 0 from if_neg h, e, Bool.or_false]
      rfl
  · dsimp only
    have hle : iI (lc : Nat) ≤ iI (lc : Nat) := by rw [jI_le (by omega) (by omega)]; omega
    unfold b_X12_taxesOf_90_body b_X12_taxesOf_181
    simp only [oR_24, oA_24, i20, k20, if_true, Option.bind_some, c2, if_pos hle, lt_, jI_s, ov_isO]
    cases hb : (s && !aB (alk T j) lc) with
    | false => rfl
    | true => rfl
end BJ
