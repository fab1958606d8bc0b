/-! ===== the reference: small functions, values laid on shelves ===== -/
theorem m_in {v a b : Int} (hv : -9223372036854775808 ≤ v ∧ v < 9223372036854775808) (ha : -9223372036854775808 ≤ a ∧ a < 9223372036854775808) (hb : -9223372036854775808 ≤ b ∧ b < 9223372036854775808) : f_X12_in (iL v) (iL a) (iL b) = some (bI (decide (a ≤ v ∧ v ≤ b))) := by
  unfold f_X12_in
  by_cases h1 : v < a
  · rw [if_pos ((iL_lt hv ha).mpr h1), decide_eq_false (by omega)]; rfl
  rw [if_neg (fun w => h1 ((iL_lt hv ha).mp w))]
  by_cases h2 : b < v
  · rw [if_pos ((iL_lt hb hv).mpr h2), decide_eq_false (by omega)]; rfl
  · rw [if_neg (fun w => h2 ((iL_lt hb hv).mp w)), decide_eq_true (by omega)]; rfl
theorem okZ_b (b : Bool) : okZ (bI b) = true := by cases b <;> decide
theorem m_inI {k : Int} {a b : Int} (hk : -2147483648 ≤ k ∧ k < 2147483648) (ha : -2147483648 ≤ a ∧ a < 2147483648) (hb : -2147483648 ≤ b ∧ b < 2147483648) : f_X12_in (iI k).toInt64 (iL a) (iL b) = some (bI (decide (a ≤ k ∧ k ≤ b))) := by
  rw [iI_iL hk, m_in ⟨by omega, by omega⟩ ⟨by omega, by omega⟩ ⟨by omega, by omega⟩]
section MN
variable {k : Int}
theorem m_isShelf (hk : -2147483648 ≤ k ∧ k < 2147483648) : f_X12_isShelf (iI k) = some (bI (decide (0 ≤ k ∧ k ≤ 11))) := by
  unfold f_X12_isShelf
  rw [show (0 : Int64) = iL 0 from rfl, show (11 : Int64) = iL 11 from rfl, m_inI hk ⟨by decide, by decide⟩ ⟨by decide, by decide⟩, Option.bind_some, if_pos (okZ_b _)]
theorem m_isScale (hk : -2147483648 ≤ k ∧ k < 2147483648) : f_X12_isScale (iI k) = some (bI (decide (-18 ≤ k ∧ k ≤ 36))) := by
  unfold f_X12_isScale
  rw [show (-18 : Int64) = iL (-18) from rfl, show (36 : Int64) = iL 36 from rfl, m_inI hk ⟨by decide, by decide⟩ ⟨by decide, by decide⟩, Option.bind_some, if_pos (okZ_b _)]
theorem m_isCurrency (hk : -2147483648 ≤ k ∧ k < 2147483648) : f_X12_isCurrency (iI k) = some (bI (decide (0 ≤ k ∧ k ≤ 3))) := by
  unfold f_X12_isCurrency
  rw [show (0 : Int64) = iL 0 from rfl, show (3 : Int64) = iL 3 from rfl, m_inI hk ⟨by decide, by decide⟩ ⟨by decide, by decide⟩, Option.bind_some, if_pos (okZ_b _)]
theorem m_isKind (hk : -2147483648 ≤ k ∧ k < 2147483648) : f_X12_isKind (iI k) = some (bI (decide (0 ≤ k ∧ k ≤ 5))) := by
  unfold f_X12_isKind
  rw [show (0 : Int64) = iL 0 from rfl, show (5 : Int64) = iL 5 from rfl, m_inI hk ⟨by decide, by decide⟩ ⟨by decide, by decide⟩, Option.bind_some, if_pos (okZ_b _)]
theorem m_isAccount (hk : -2147483648 ≤ k ∧ k < 2147483648) : f_X12_isAccount (iI k) = some (bI (decide (0 ≤ k ∧ k ≤ 99))) := by
  unfold f_X12_isAccount
  rw [show (0 : Int64) = iL 0 from rfl, show (99 : Int64) = iL 99 from rfl, m_inI hk ⟨by decide, by decide⟩ ⟨by decide, by decide⟩, Option.bind_some, if_pos (okZ_b _)]
end MN
theorem m_fails {mb : Nat} {M : MS} {σ : Sto} {k : Nat} (hk : k < 100) : f_X12_fails (ov mb M σ) mb (iI (k : Nat)) = some (bI (decide (0 < k)), ov mb (uI M 8 (iI (k : Nat))) σ) := by
  unfold f_X12_fails
  rw [oP_8, Option.bind_some]
  by_cases h : 0 < k
  · rw [if_neg (fun w => by rw [iI_lit 0, jI_le (by omega) (by omega)] at w; omega), decide_eq_true h]; rfl
  · rw [if_pos (by rw [iI_lit 0, jI_le (by omega) (by omega)]; omega), decide_eq_false h]; rfl
theorem m_digitsOf {u : Int} {N : Nat} (hu : -9223372036854775808 < u ∧ u < 9223372036854775808) (hN : 30 ≤ N) : f_X12_digitsOf N (iL u) = some (iI (dgN u.natAbs : Nat)) := by
  have h19 : dgN u.natAbs ≤ 19 := (dgN_le (by decide)).mpr (by omega)
  have h1 := dgN_pos u.natAbs
  have st : ∀ j : Nat, iL (sgn (ng u) (u.natAbs / 10 ^ j)) / 10 = iL (sgn (ng u) (u.natAbs / 10 ^ (j + 1))) := by
    intro j
    have := Nat.div_le_self u.natAbs (10 ^ j)
    rw [(sg_tdiv (by omega)).1, Nat.pow_succ, ← Nat.div_div_eq_div_mul]
  have ze : ∀ j : Nat, iL (sgn (ng u) (u.natAbs / 10 ^ j)) = 0 ↔ u.natAbs / 10 ^ j = 0 := by
    intro j
    have h2 := Nat.div_le_self u.natAbs (10 ^ j)
    have h3 := sgn_abs (ng u) (u.natAbs / 10 ^ j)
    rw [iL_lit 0, iL_eq ⟨by omega, by omega⟩ ⟨by decide, by decide⟩]
    omega
  unfold f_X12_digitsOf b_X12_digitsOf_8
  dsimp only [lt_]
  have e0 : iL u / 10 = iL (sgn (ng u) (u.natAbs / 10 ^ (0 + 1))) := by
    have := st 0
    rw [Nat.pow_zero, Nat.div_one, sgn_ng] at this
    exact this
  rw [e0]
  refine lp_for (F := fun k (e : Int32 × Int64) => b_X12_digitsOf_8_body N k e.1 e.2) (n := dgN u.natAbs - 1) (st := fun j => (iI ((j + 1 : Nat) : Int), iL (sgn (ng u) (u.natAbs / 10 ^ (j + 1))))) ?_ ?_ N 0 (Nat.zero_le _) (by omega)
  · intro j hj K
    have hlt : ¬ dgN u.natAbs ≤ j + 1 := by omega
    rw [dgN_le (by omega)] at hlt
    dsimp only
    unfold b_X12_digitsOf_8_body
    rw [if_neg (fun w => hlt (d0_lt ((ze _).mp w))), st]
    dsimp only [lt_]
    rw [jI_s]
  · intro K
    have hlt : dgN u.natAbs ≤ dgN u.natAbs - 1 + 1 := by omega
    rw [dgN_le (by omega)] at hlt
    dsimp only
    unfold b_X12_digitsOf_8_body
    rw [if_pos ((ze _).mpr (Nat.div_eq_of_lt hlt)), show dgN u.natAbs - 1 + 1 = dgN u.natAbs by omega]
/-- a value on a shelf of the reference -/
def lay (M : MS) (k : Nat) (u s : Int) : MS := uA (uA (uL M 3 k (iL u)) 4 k (iI s)) 5 k 1
def mL (mb : Nat) (M : MS) (σ : Sto) (k : Nat) : Option (Int × Int) → Option (Int32 × Sto)
  | none => some (0, ov mb M σ)
  | some q => some (1, ov mb (lay M k q.1 q.2) σ)
theorem aI12 {k : Nat} (hk : k < 12) : inB (iI (k : Nat)) 12 = true ∧ (iI (k : Nat)).toNatClampNeg = k := by
  refine ⟨(iI_inB ⟨by omega, by omega⟩).mpr ⟨by omega, by omega⟩, ?_⟩
  rw [iI_cl ⟨by omega, by omega⟩]
  rfl
theorem inN {k n : Nat} (hk : k < n) (hn : n ≤ 100000) : inB (iI (k : Nat)) n = true := (iI_inB ⟨by omega, by omega⟩).mpr ⟨by omega, by omega⟩
theorem clN {k : Nat} (hk : k ≤ 100000) : (iI (k : Nat)).toNatClampNeg = k := by
  rw [iI_cl ⟨by omega, by omega⟩]
  rfl
theorem m_lays {mb : Nat} {M : MS} {σ : Sto} {k r v N : Nat} {b : Bool} {s : Int} (hk : k < 12) (hr : r < 10) (hv : Hv M r v) (hs : -2147483648 ≤ s ∧ s < 2147483648) (hN : 300 ≤ N) : f_X12_lays N (ov mb M σ) mb (iI (k : Nat)) (iI (r : Nat)) (bI b) (iI s) = mL mb M σ k (chk (sgn b v) s) := by
  obtain ⟨r1, r2⟩ := rI hr
  obtain ⟨k1, k2⟩ := aI12 hk
  have h240 := hv.2.1
  have hsz : nd v ≤ 18 ↔ v < 1000000000000000000 := (nd_le (v := v) (n := 18)).symm
  have ha := sgn_abs b v
  have fin : ∀ u : Int, b_X12_lays_44 N (ov mb M σ) mb (iI (k : Nat)) (iI s) (iL u) (iI (k : Nat)) (mb + 3) = some (1, ov mb (lay M k u s) σ) := by
    intro u
    unfold b_X12_lays_44
    simp only [oS_3, oR_4, oS_4, oR_5, oS_5, Option.bind_some, k1, k2, if_true]
    rfl
  unfold f_X12_lays
  simp only [oR_1, oA_1, Option.bind_some, r1, r2, if_true, hv.1]
  by_cases h1 : 18 < nd v
  · rw [if_pos (show (18 : Int32) < iI (nd v : Nat) by rw [iI_lit 18, jI_lt (by omega) (by omega)]; exact h1), chk_big (by omega)]
    rfl
  rw [if_neg (show ¬ (18 : Int32) < iI (nd v : Nat) from fun w => by rw [iI_lit 18, jI_lt (by omega) (by omega)] at w; omega), m_isScale hs, Option.bind_some]
  by_cases h2 : -18 ≤ s ∧ s ≤ 36
  · rw [decide_eq_true h2, if_neg (by decide), oR_3, Option.bind_some, ov_isO, Option.bind_some]
    have ec : chk (sgn b v) s = some (sgn b v, s) := by
      unfold chk inR
      rw [decide_eq_true (by omega), if_pos rfl]
    rw [ec]
    cases b with
    | false =>
      rw [if_pos (by decide), m_value_loop hr hv hN, Option.bind_some]
      exact fin _
    | true =>
      rw [if_neg (by decide), Option.bind_some, m_value_loop hr hv hN, Option.bind_some, iL_neg]
      exact fin _
  · rw [decide_eq_false h2, if_pos (by decide)]
    have ec : chk (sgn b v) s = none := by
      unfold chk inR
      rw [decide_eq_false (by omega)]
      rfl
    rw [ec]
    rfl
/-- a value of the reference's shelf -/
def MV (M : MS) (k : Nat) (u s : Int) : Prop := M.2.1 5 k = 1 ∧ M.2.2 3 k = iL u ∧ M.2.1 4 k = iI s
theorem MV.sc {M M' : MS} {k : Nat} {u s : Int} (h : MV M k u s) (hs : Sc M M') : MV M' k u s := by
  obtain ⟨a, b, c⟩ := h
  unfold MV
  rw [hs.2.1 5 (by decide) (by decide), hs.2.1 4 (by decide) (by decide), hs.2.2]
  exact ⟨a, b, c⟩
section MO
variable {mb : Nat} {M : MS} {σ : Sto} {k k' t N : Nat} {u s u' s' : Int}
theorem m_as {r : Nat} {S : Int} (hk : k < 12) (hr : r < 10) (hv : MV M k u s) (hg : RgV u s) (hS : s ≤ S ∧ S ≤ 100) (hN : 600 ≤ N) : ∃ M', f_X12_as N (ov mb M σ) mb (iI (r : Nat)) (iI (k : Nat)) (iI S) = some ((), ov mb M' σ) ∧ Sf [r] M M' ∧ Hv M' r (u.natAbs * 10 ^ (S - s).toNat) := by
  obtain ⟨g1, g2, g3, g4⟩ := hg
  obtain ⟨k1, k2⟩ := aI12 hk
  obtain ⟨v1, v2, v3⟩ := hv
  obtain ⟨M1, a1, a2, a3⟩ := m_lets (mb := mb) (M := M) (σ := σ) (r := r) (z := u) (N := N) hr ⟨by omega, by omega⟩ (by omega)
  have e3 : M1.2.1 4 k = iI s := by rw [a2.2.2.1 4 (by decide) (by decide)]; exact v3
  have hn : nd u.natAbs ≤ 18 := nd_le.mp (by omega)
  obtain ⟨M2, b1, b2', b3'⟩ := m_shifts (mb := mb) (M := M1) (σ := σ) (r := r) (z := S - s) (N := N) hr ⟨by omega, by omega⟩ a3 (Or.inr (by omega)) hN
  refine ⟨M2, ?_, a2.tr b2', b3'⟩
  unfold f_X12_as
  simp only [oR_3, oA_3, Option.bind_some, k1, k2, if_true, v2]
  rw [ov_isO, Option.bind_some, a1]
  show (gR (ov mb M1 σ) mb 11 4).bind _ = _
  simp only [oR_4, oA_4, Option.bind_some, k1, k2, if_true, e3]
  rw [ov_isO, Option.bind_some, iI_sub, b1]
  rfl
theorem m_greater {a b : Int} (ha : -2147483648 ≤ a ∧ a < 2147483648) (hb : -2147483648 ≤ b ∧ b < 2147483648) : f_X12_greater (iI a) (iI b) = some (iI (mxI a b)) := by
  unfold f_X12_greater mxI
  by_cases h : a < b
  · rw [if_pos ((iI_le ha hb).mpr (by omega)), if_pos h]
  · by_cases h2 : a = b
    · subst h2
      rw [if_pos (Int32.le_refl _), if_neg (by omega)]
    · rw [if_neg (fun w => by rw [iI_le ha hb] at w; omega), if_neg h]
theorem m_signOf (hu : -9223372036854775808 < u ∧ u < 9223372036854775808) : f_X12_signOf (iL u) = some (iI (sg u)) := by
  unfold f_X12_signOf
  rcases sg_v u with ⟨a, e⟩ | ⟨a, e⟩ | ⟨a, e⟩
  · rw [e, a]; decide
  · rw [if_neg (fun w => by rw [iL_lit 0, iL_le ⟨by decide, by decide⟩ ⟨by omega, by omega⟩] at w; omega), e]; rfl
  · rw [if_pos (by rw [iL_lit 0, iL_le ⟨by decide, by decide⟩ ⟨by omega, by omega⟩]; omega), if_neg (fun w => by rw [iL_lit 0, iL_le ⟨by omega, by omega⟩ ⟨by decide, by decide⟩] at w; omega), e]; rfl
theorem m_order (hk : k < 12) (hk' : k' < 12) (hv : MV M k u s) (hv' : MV M k' u' s') (hg : RgV u s) (hg' : RgV u' s') (hN : 600 ≤ N) : ∃ M', f_X12_order N (ov mb M σ) mb (iI (k : Nat)) (iI (k' : Nat)) = some (iI (cmpI (al u s (mxI s s')) (al u' s' (mxI s s'))), ov mb M' σ) ∧ Sc M M' := by
  have ⟨g1, g2, g3, g4⟩ := hg
  have ⟨h1, h2, h3, h4⟩ := hg'
  obtain ⟨k1, k2⟩ := aI12 hk
  obtain ⟨q1, q2⟩ := aI12 hk'
  obtain ⟨m1, m2, m3⟩ := mxI_v s s'
  have d1 := sg_v u
  have d2 := sg_v u'
  unfold f_X12_order
  simp only [oR_4, oA_4, oR_3, oA_3, Option.bind_some, k1, k2, q1, q2, if_true, hv.2.1, hv.2.2, hv'.2.1, hv'.2.2]
  rw [m_greater ⟨by omega, by omega⟩ ⟨by omega, by omega⟩, Option.bind_some, m_signOf ⟨by omega, by omega⟩, Option.bind_some, m_signOf ⟨by omega, by omega⟩, Option.bind_some]
  by_cases he : sg u = sg u'
  · rw [if_pos (by rw [he])]
    obtain ⟨M1, a1, a2, a3⟩ := m_as (mb := mb) (σ := σ) (r := 4) (S := mxI s s') (N := N) hk (by decide) hv hg ⟨m1, by omega⟩ hN
    obtain ⟨M2, b1, b2', b3'⟩ := m_as (mb := mb) (M := M1) (σ := σ) (r := 5) (S := mxI s s') (N := N) hk' (by decide) (hv'.sc a2.sc) hg' ⟨m2, by omega⟩ hN
    have a4 := b2'.Hv (r := 4) (by decide) a3
    have cm := m_compares (mb := mb) (M := M2) (σ := σ) (a := 4) (b := 5) (N := N) (by decide) (by decide) a4 b3' (by omega)
    refine ⟨M2, ?_, a2.sc.tr b2'.sc⟩
    have e1 : f_X12_as N (ov mb M σ) mb 4 (iI (k : Nat)) (iI (mxI s s')) = some ((), ov mb M1 σ) := a1
    have e2 : f_X12_as N (ov mb M1 σ) mb 5 (iI (k' : Nat)) (iI (mxI s s')) = some ((), ov mb M2 σ) := b1
    have e3 : f_X12_compares N (ov mb M2 σ) mb 4 5 = some (iI (cmpN (u.natAbs * 10 ^ (mxI s s' - s).toNat) (u'.natAbs * 10 ^ (mxI s s' - s').toNat))) := cm
    rw [ov_isO, Option.bind_some, e1]
    show (isO (ov mb M1 σ) mb 11).bind _ = _
    rw [ov_isO, Option.bind_some, e2]
    show (isO (ov mb M2 σ) mb 11).bind _ = _
    rw [ov_isO, Option.bind_some, e3, Option.bind_some, iI_mul]
    have := cmp_sg (a := al u s (mxI s s')) (b := al u' s' (mxI s s')) (c := cmpN (u.natAbs * 10 ^ (mxI s s' - s).toNat) (u'.natAbs * 10 ^ (mxI s s' - s').toNat)) (by rw [sg_al, sg_al]; exact he) (fun _ _ => by rw [al_abs, al_abs])
    rw [sg_al] at this
    rw [this]
  · rw [if_neg (fun w => he (by rw [iI_eq ⟨by omega, by omega⟩ ⟨by omega, by omega⟩] at w; exact w))]
    have a1 := sg_al u s (mxI s s')
    have a2 := sg_al u' s' (mxI s s')
    have b1 := sg_v (al u s (mxI s s'))
    have b2 := sg_v (al u' s' (mxI s s'))
    have cv := cmpI_v (al u s (mxI s s')) (al u' s' (mxI s s'))
    by_cases hl : sg u' ≤ sg u
    · rw [if_pos (by rw [iI_le ⟨by omega, by omega⟩ ⟨by omega, by omega⟩]; exact hl)]
      rw [show cmpI (al u s (mxI s s')) (al u' s' (mxI s s')) = 1 by omega]
      exact ⟨M, rfl, Sc.rf⟩
    · rw [if_neg (fun w => hl (by rw [iI_le ⟨by omega, by omega⟩ ⟨by omega, by omega⟩] at w; exact w))]
      rw [show cmpI (al u s (mxI s s')) (al u' s' (mxI s s')) = -1 by omega]
      exact ⟨M, rfl, Sc.rf⟩
theorem m_takes (hk : k < 12) (ht : t < 12) (hv : MV M k u s) (hg : RgV u s) (hN : 600 ≤ N) : ∃ M', f_X12_takes N (ov mb M σ) mb (iI (k : Nat)) (iI (t : Nat)) = mL mb M' σ t (some (u, s)) ∧ Sc M M' := by
  have ⟨g1, g2, g3, g4⟩ := hg
  obtain ⟨k1, k2⟩ := aI12 hk
  obtain ⟨M1, a1, a2, a3⟩ := m_lets (mb := mb) (M := M) (σ := σ) (r := 4) (z := u) (N := N) (by decide) ⟨by omega, by omega⟩ (by omega)
  have e1 : f_X12_lets N (ov mb M σ) mb 4 (iL u) = some ((), ov mb M1 σ) := a1
  have hv1 := hv.sc a2.sc
  have key := m_lays (mb := mb) (M := M1) (σ := σ) (k := t) (r := 4) (v := u.natAbs) (b := ng u) (s := s) (N := N) ht (by decide) a3 ⟨by omega, by omega⟩ (by omega)
  rw [sgn_ng] at key
  have ec : chk u s = some (u, s) := by
    unfold chk inR
    rw [decide_eq_true ⟨g1, g2, g3, g4⟩, if_pos rfl]
  rw [ec] at key
  refine ⟨M1, ?_, a2.sc⟩
  unfold f_X12_takes b_X12_takes_30
  simp only [oR_3, oA_3, Option.bind_some, k1, k2, if_true, hv.2.1]
  rw [ov_isO, Option.bind_some, e1]
  show (gR (ov mb M1 σ) mb 11 3).bind _ = _
  simp only [oR_3, oA_3, oR_4, oA_4, Option.bind_some, k1, k2, if_true, hv1.2.1, hv1.2.2]
  rw [x_ng ⟨by omega, by omega⟩, ov_isO]
  simp only [Option.bind_some]
  have e2 : ∀ b : Bool, (if b = true then b2 (f_X12_lays N (ov mb M1 σ) mb (iI (t : Nat)) 4 1 (iI s)) fun x4 τ5 => if okZ x4 = true then some (x4, τ5) else none else b2 (f_X12_lays N (ov mb M1 σ) mb (iI (t : Nat)) 4 0 (iI s)) fun x4 τ5 => if okZ x4 = true then some (x4, τ5) else none) = b2 (f_X12_lays N (ov mb M1 σ) mb (iI (t : Nat)) (iI ((4 : Nat) : Int)) (bI b) (iI s)) fun x4 τ5 => if okZ x4 = true then some (x4, τ5) else none := by
    intro b
    cases b <;> rfl
  rw [e2, key]
  rfl
end MO
