/-! ===== unscaled, scale, precision, compare, isEqual ===== -/
section FF
variable {mb : Nat} {M : MS} {ρ : Sto}
theorem ff0 : f_X12_fails (ov mb M ρ) mb 0 = some (0, ov mb (uI M 8 0) ρ) := m_fails (k := 0) (by decide)
theorem ff1 : f_X12_fails (ov mb M ρ) mb 1 = some (1, ov mb (uI M 8 1) ρ) := m_fails (k := 1) (by decide)
theorem ff2 : f_X12_fails (ov mb M ρ) mb 2 = some (1, ov mb (uI M 8 2) ρ) := m_fails (k := 2) (by decide)
theorem ff3 : f_X12_fails (ov mb M ρ) mb 3 = some (1, ov mb (uI M 8 3) ρ) := m_fails (k := 3) (by decide)
theorem ff4 : f_X12_fails (ov mb M ρ) mb 4 = some (1, ov mb (uI M 8 4) ρ) := m_fails (k := 4) (by decide)
theorem ff5 : f_X12_fails (ov mb M ρ) mb 5 = some (1, ov mb (uI M 8 5) ρ) := m_fails (k := 5) (by decide)
end FF
theorem m_shY {k : Nat} (hk : k < 12) : f_X12_isShelf (iI (k : Nat)) = some 1 := by
  rw [m_isShelf ⟨by omega, by omega⟩, decide_eq_true (by omega)]; rfl
theorem m_shN {k : Int} (hk : -2147483648 ≤ k ∧ k < 2147483648) (h : ¬ (0 ≤ k ∧ k ≤ 11)) : f_X12_isShelf (iI k) = some 0 := by
  rw [m_isShelf hk, decide_eq_false h]; rfl
theorem x_shN {k : Int} (hk : -2147483648 ≤ k ∧ k < 2147483648) (h : ¬ (0 ≤ k ∧ k ≤ 11)) : f_X11_checkShelf (iI k) = some (.inl 0) := by
  rw [x_checkShelf hk, if_neg h]
theorem in12 {k : Nat} (hk : k < 12) : inB (iI (k : Nat)) 12 = true := inN hk (by decide)
theorem cl12 {k : Nat} (hk : k < 12) : (iI (k : Nat)).toNatClampNeg = k := clN (by omega)
/-- a shelf: not there, empty, or with a value -/
theorem sh_cases {K : KS} {M : MS} {σ : Sto} {v : Int32} (hR : RV K M σ) : (∃ k : Int, v = iI k ∧ (-2147483648 ≤ k ∧ k < 2147483648) ∧ ¬ (0 ≤ k ∧ k ≤ 11)) ∨ ∃ k : Nat, v = iI (k : Nat) ∧ k < 12 ∧ ((K.2.2.1 1 k = none ∧ M.2.1 5 k = 0) ∨ ∃ p u s, K.2.2.1 1 k = some p ∧ Val σ p u s ∧ RgV u s ∧ MV M k u s) := by
  obtain ⟨k, k1, k2, rfl⟩ := iI_of v
  by_cases c1 : 0 ≤ k ∧ k ≤ 11
  · obtain ⟨kn, rfl⟩ : ∃ kn : Nat, k = kn := ⟨k.toNat, by omega⟩
    exact Or.inr ⟨kn, rfl, by omega, hR kn (by omega)⟩
  · exact Or.inl ⟨k, rfl, ⟨k1, k2⟩, c1⟩
theorem MV.u8 {M : MS} {k : Nat} {u s : Int} {v : Int32} (h : MV M k u s) : MV (uI M 8 v) k u s := h
theorem p_unscaled {xb mb ob N : Nat} : A_unscaled (I0 xb mb ob) N xb mb ob := by
  intro v1
  refine ag_in (fun n σ sz ni A W K M hn hA ho hC hR hF => ?_)
  subst hA
  rcases sh_cases (v := v1) hR.1 with ⟨k, rfl, hk, c1⟩ | ⟨k, rfl, hk, ⟨e1, e2⟩ | ⟨p, u, s, e1, hv, hg, hm⟩⟩
  · refine ag_no (k := 1) (y := sz) rfl ho hC hR ?_ (by decide) (by decide) (fun ρ => ⟨uI M 8 1, 0, ?_, Sd.u8, u8_v⟩)
    · simp only [f_L_unscaled, f_X11_unscaled, hC.xo, Option.bind_some, x_shN hk c1, bs]
      rfl
    · simp only [f_X12_unscaled, f_X12_noValue, ov_isO, Option.bind_some, m_shN hk c1, if_true, ff1, b2]
      rfl
  · refine ag_no (k := 2) (y := sz) rfl ho hC hR ?_ (by decide) (by decide) (fun ρ => ⟨uI M 8 2, 0, ?_, Sd.u8, u8_v⟩)
    · simp only [f_L_unscaled, f_X11_unscaled, hC.xo, Option.bind_some, x_shelfOk hk, x_valueOn hC hk, e1, oq, bs]
      rfl
    · simp only [f_X12_unscaled, f_X12_noValue, ov_isO, Option.bind_some, m_shY hk, oR_5, oA_5, in12 hk, cl12 hk, e2, if_true, ff2, b2]
      show ((f_X12_fails (ov mb M ρ) mb 2).bind _) = _
      rw [ff2]
      rfl
  · refine ag_ok (v := iL u) (y := sz) rfl ho ?_ hC (fun ρ => ⟨uI M 8 0, iL u, ?_, u8_v, rfl, (hR.sd Sd.u8).up⟩)
    · simp only [f_L_unscaled, f_X11_unscaled, hC.xo, Option.bind_some, x_shelfOk hk, x_valueOn hC hk, e1, oq, bs, hv.u]
    · simp only [f_X12_unscaled, f_X12_noValue, ov_isO, Option.bind_some, m_shY hk, oR_5, oA_5, oR_3, oA_3, in12 hk, cl12 hk, hm.1, if_true, b2]
      show ((f_X12_fails (ov mb M ρ) mb 0).bind _) = _
      simp only [ff0, Option.bind_some, oR_3, oA_3, in12 hk, cl12 hk, if_true, hm.u8.2.1]
theorem p_scale {xb mb ob N : Nat} : A_scale (I0 xb mb ob) N xb mb ob := by
  intro v1
  refine ag_in (fun n σ sz ni A W K M hn hA ho hC hR hF => ?_)
  subst hA
  rcases sh_cases (v := v1) hR.1 with ⟨k, rfl, hk, c1⟩ | ⟨k, rfl, hk, ⟨e1, e2⟩ | ⟨p, u, s, e1, hv, hg, hm⟩⟩
  · refine ag_no (k := 1) (y := sz) rfl ho hC hR ?_ (by decide) (by decide) (fun ρ => ⟨uI M 8 1, 0, ?_, Sd.u8, u8_v⟩)
    · simp only [f_L_scale, f_X11_scale, hC.xo, Option.bind_some, x_shN hk c1, bs]
      rfl
    · simp only [f_X12_scale, f_X12_noValue, ov_isO, Option.bind_some, m_shN hk c1, if_true, ff1, b2]
      rfl
  · refine ag_no (k := 2) (y := sz) rfl ho hC hR ?_ (by decide) (by decide) (fun ρ => ⟨uI M 8 2, 0, ?_, Sd.u8, u8_v⟩)
    · simp only [f_L_scale, f_X11_scale, hC.xo, Option.bind_some, x_shelfOk hk, x_valueOn hC hk, e1, oq, bs]
      rfl
    · simp only [f_X12_scale, f_X12_noValue, ov_isO, Option.bind_some, m_shY hk, oR_5, oA_5, in12 hk, cl12 hk, e2, if_true, ff2, b2]
      show ((f_X12_fails (ov mb M ρ) mb 2).bind _) = _
      rw [ff2]
      rfl
  · refine ag_ok (v := (iI s).toInt64) (y := sz) rfl ho ?_ hC (fun ρ => ⟨uI M 8 0, iI s, ?_, u8_v, rfl, (hR.sd Sd.u8).up⟩)
    · simp only [f_L_scale, f_X11_scale, hC.xo, Option.bind_some, x_shelfOk hk, x_valueOn hC hk, e1, oq, bs, hv.s]
    · simp only [f_X12_scale, f_X12_noValue, ov_isO, Option.bind_some, m_shY hk, oR_5, oA_5, in12 hk, cl12 hk, hm.1, if_true, b2]
      show ((f_X12_fails (ov mb M ρ) mb 0).bind _) = _
      simp only [ff0, Option.bind_some, oR_4, oA_4, in12 hk, cl12 hk, if_true, hm.u8.2.2]
theorem p_precision {xb mb ob N : Nat} (hN : 1000 ≤ N) : A_precision (I0 xb mb ob) N xb mb ob := by
  intro v1
  refine ag_in (fun n σ sz ni A W K M hn hA ho hC hR hF => ?_)
  subst hA
  rcases sh_cases (v := v1) hR.1 with ⟨k, rfl, hk, c1⟩ | ⟨k, rfl, hk, ⟨e1, e2⟩ | ⟨p, u, s, e1, hv, hg, hm⟩⟩
  · refine ag_no (k := 1) (y := sz) rfl ho hC hR ?_ (by decide) (by decide) (fun ρ => ⟨uI M 8 1, 0, ?_, Sd.u8, u8_v⟩)
    · simp only [f_L_precision, f_X11_precision, hC.xo, Option.bind_some, x_shN hk c1, bs]
      rfl
    · simp only [f_X12_precision, f_X12_noValue, ov_isO, Option.bind_some, m_shN hk c1, if_true, ff1, b2]
      rfl
  · refine ag_no (k := 2) (y := sz) rfl ho hC hR ?_ (by decide) (by decide) (fun ρ => ⟨uI M 8 2, 0, ?_, Sd.u8, u8_v⟩)
    · simp only [f_L_precision, f_X11_precision, hC.xo, Option.bind_some, x_shelfOk hk, x_valueOn hC hk, e1, oq, bs]
      rfl
    · simp only [f_X12_precision, f_X12_noValue, ov_isO, Option.bind_some, m_shY hk, oR_5, oA_5, in12 hk, cl12 hk, e2, if_true, ff2, b2]
      show ((f_X12_fails (ov mb M ρ) mb 2).bind _) = _
      rw [ff2]
      rfl
  · have ⟨r1, r2, r3, r4⟩ := hg
    refine ag_ok (v := (iI (sg u * (dgN u.natAbs : Nat))).toInt64) (y := sz) rfl ho ?_ hC (fun ρ => ⟨uI M 8 0, iI (sg u * (dgN u.natAbs : Nat)), ?_, u8_v, rfl, (hR.sd Sd.u8).up⟩)
    · simp only [f_L_precision, f_X11_precision, hC.xo, Option.bind_some, x_shelfOk hk, x_valueOn hC hk, e1, oq, bs, hv.io, x_sign hv hg, x_digits hv hg (show 30 ≤ N by omega), iI_mul]
    · simp only [f_X12_precision, f_X12_noValue, ov_isO, Option.bind_some, m_shY hk, oR_5, oA_5, in12 hk, cl12 hk, hm.1, if_true, b2]
      show ((f_X12_fails (ov mb M ρ) mb 0).bind _) = _
      simp only [ff0, Option.bind_some, oR_3, oA_3, in12 hk, cl12 hk, if_true, hm.u8.2.1, m_digitsOf (N := N) ⟨show -9223372036854775808 < u by omega, by omega⟩ (by omega)]
      have hng := @x_ng u ⟨by omega, by omega⟩ (Option (Int32 × Sto))
      rw [hng]
      unfold ng
      rcases sg_v u with ⟨j, e⟩ | ⟨j, e⟩ | ⟨j, e⟩
      · rw [e, j]; rfl
      · rw [e, if_neg (fun w => by rw [iL_lit 0, iL_eq ⟨by omega, by omega⟩ ⟨by decide, by decide⟩] at w; omega), if_pos (decide_eq_true j), iI_neg]
        congr 3
        omega
      · rw [e, if_neg (fun w => by rw [iL_lit 0, iL_eq ⟨by omega, by omega⟩ ⟨by decide, by decide⟩] at w; omega), if_neg (fun w => by have := of_decide_eq_true w; omega)]
        congr 3
        omega
theorem p_compare {xb mb ob N : Nat} (hN : 1000 ≤ N) : A_compare (I0 xb mb ob) N xb mb ob := by
  intro v1 v2
  refine ag_in (fun n σ sz ni A W K M hn hA ho hC hR hF => ?_)
  subst hA
  have no : ∀ (ρ : Sto) (c : Nat) (v1 v2 : Int32), c ≠ 0 → c < 100 → b_X12_compare_42 N (ov mb M ρ) mb v1 v2 (iI (c : Nat)) mb = some (0, ov mb (uI M 8 (iI (c : Nat))) ρ) := by
    intro ρ c v1 v2 h1 h2
    unfold b_X12_compare_42
    rw [ov_isO, Option.bind_some, m_fails h2, decide_eq_true (by omega)]
    rfl
  have n1 := fun ρ v1 v2 => no ρ 1 v1 v2 (by decide) (by decide)
  have n2 := fun ρ v1 v2 => no ρ 2 v1 v2 (by decide) (by decide)
  rcases sh_cases (v := v1) hR.1 with ⟨k, rfl, hk, c1⟩ | ⟨k, rfl, hk, ha⟩
  · refine ag_no (k := 1) (y := sz) rfl ho hC hR ?_ (by decide) (by decide) (fun ρ => ⟨uI M 8 1, 0, ?_, Sd.u8, u8_v⟩)
    · simp only [f_L_compare, f_X11_compare, hC.xo, Option.bind_some, x_shN hk c1, bs]
      rfl
    · simp only [f_X12_compare, Option.bind_some, m_shN hk c1, if_true]
      exact n1 ρ _ _
  rcases sh_cases (v := v2) hR.1 with ⟨k', rfl, hk', c1⟩ | ⟨k', rfl, hk', ha'⟩
  · refine ag_no (k := 1) (y := sz) rfl ho hC hR ?_ (by decide) (by decide) (fun ρ => ⟨uI M 8 1, 0, ?_, Sd.u8, u8_v⟩)
    · simp only [f_L_compare, f_X11_compare, hC.xo, Option.bind_some, x_shelfOk hk, x_shN hk' c1, bs]
      rfl
    · simp only [f_X12_compare, Option.bind_some, m_shY hk, m_shN hk' c1, if_true]
      exact n1 ρ _ _
  rcases ha with ⟨e1, e2⟩ | ⟨p, u, s, e1, hv, hg, hm⟩
  · refine ag_no (k := 2) (y := sz) rfl ho hC hR ?_ (by decide) (by decide) (fun ρ => ⟨uI M 8 2, 0, ?_, Sd.u8, u8_v⟩)
    · simp only [f_L_compare, f_X11_compare, hC.xo, Option.bind_some, x_shelfOk hk, x_shelfOk hk', x_valueOn hC hk, e1, oq, bs]
      rfl
    · simp only [f_X12_compare, Option.bind_some, m_shY hk, m_shY hk', oR_5, oA_5, in12 hk, cl12 hk, e2, if_true]
      exact n2 ρ _ _
  rcases ha' with ⟨e1', e2'⟩ | ⟨p', u', s', e1', hv', hg', hm'⟩
  · refine ag_no (k := 2) (y := sz) rfl ho hC hR ?_ (by decide) (by decide) (fun ρ => ⟨uI M 8 2, 0, ?_, Sd.u8, u8_v⟩)
    · simp only [f_L_compare, f_X11_compare, hC.xo, Option.bind_some, x_shelfOk hk, x_shelfOk hk', x_valueOn hC hk, x_valueOn hC hk', e1, e1', oq, bs]
      rfl
    · simp only [f_X12_compare, Option.bind_some, m_shY hk, m_shY hk', oR_5, oA_5, in12 hk, cl12 hk, in12 hk', cl12 hk', hm.1, e2', if_true]
      exact n2 ρ _ _
  refine ag_ok (v := (iI (cmpI (al u s (mxI s s')) (al u' s' (mxI s s')))).toInt64) (y := sz) rfl ho ?_ hC (fun ρ => ?_)
  · simp only [f_L_compare, f_X11_compare, hC.xo, Option.bind_some, x_shelfOk hk, x_shelfOk hk', x_valueOn hC hk, x_valueOn hC hk', e1, e1', oq, bs, hv.io, x_order hv hv' hg hg' (show 30 ≤ N by omega)]
  · obtain ⟨M1, a1, a2⟩ := m_order (mb := mb) (M := uI M 8 0) (σ := ρ) (N := N) hk hk' hm.u8 hm'.u8 hg hg' (by omega)
    refine ⟨M1, _, ?_, ?_, rfl, (hR.sd (Sd.u8.tr a2.sd)).up⟩
    · simp only [f_X12_compare, Option.bind_some, m_shY hk, m_shY hk', oR_5, oA_5, in12 hk, cl12 hk, in12 hk', cl12 hk', hm.1, hm'.1, if_true]
      show b_X12_compare_42 N (ov mb M ρ) mb (iI (k : Nat)) (iI (k' : Nat)) 0 mb = _
      unfold b_X12_compare_42
      simp only [ov_isO, Option.bind_some, ff0, b2, if_true, a1]
    · rw [a2.1 8 (by decide)]; exact u8_v
theorem p_isEqual {xb mb ob N : Nat} : A_isEqual (I0 xb mb ob) N xb mb ob := by
  intro v1 v2
  refine ag_in (fun n σ sz ni A W K M hn hA ho hC hR hF => ?_)
  subst hA
  have no : ∀ (ρ : Sto) (c : Nat) (v1 v2 : Int32), c ≠ 0 → c < 100 → b_X12_isEqual_42 (ov mb M ρ) mb v1 v2 (iI (c : Nat)) mb = some (0, ov mb (uI M 8 (iI (c : Nat))) ρ) := by
    intro ρ c v1 v2 h1 h2
    unfold b_X12_isEqual_42
    rw [ov_isO, Option.bind_some, m_fails h2, decide_eq_true (by omega)]
    rfl
  have n1 := fun ρ v1 v2 => no ρ 1 v1 v2 (by decide) (by decide)
  have n2 := fun ρ v1 v2 => no ρ 2 v1 v2 (by decide) (by decide)
  rcases sh_cases (v := v1) hR.1 with ⟨k, rfl, hk, c1⟩ | ⟨k, rfl, hk, ha⟩
  · refine ag_no (k := 1) (y := sz) rfl ho hC hR ?_ (by decide) (by decide) (fun ρ => ⟨uI M 8 1, 0, ?_, Sd.u8, u8_v⟩)
    · simp only [f_L_isEqual, f_X11_isEqual, hC.xo, Option.bind_some, x_shN hk c1, bs]
      rfl
    · simp only [f_X12_isEqual, Option.bind_some, m_shN hk c1, if_true]
      exact n1 ρ _ _
  rcases sh_cases (v := v2) hR.1 with ⟨k', rfl, hk', c1⟩ | ⟨k', rfl, hk', ha'⟩
  · refine ag_no (k := 1) (y := sz) rfl ho hC hR ?_ (by decide) (by decide) (fun ρ => ⟨uI M 8 1, 0, ?_, Sd.u8, u8_v⟩)
    · simp only [f_L_isEqual, f_X11_isEqual, hC.xo, Option.bind_some, x_shelfOk hk, x_shN hk' c1, bs]
      rfl
    · simp only [f_X12_isEqual, Option.bind_some, m_shY hk, m_shN hk' c1, if_true]
      exact n1 ρ _ _
  rcases ha with ⟨e1, e2⟩ | ⟨p, u, s, e1, hv, hg, hm⟩
  · refine ag_no (k := 2) (y := sz) rfl ho hC hR ?_ (by decide) (by decide) (fun ρ => ⟨uI M 8 2, 0, ?_, Sd.u8, u8_v⟩)
    · simp only [f_L_isEqual, f_X11_isEqual, hC.xo, Option.bind_some, x_shelfOk hk, x_shelfOk hk', x_valueOn hC hk, e1, oq, bs]
      rfl
    · simp only [f_X12_isEqual, Option.bind_some, m_shY hk, m_shY hk', oR_5, oA_5, in12 hk, cl12 hk, e2, if_true]
      exact n2 ρ _ _
  rcases ha' with ⟨e1', e2'⟩ | ⟨p', u', s', e1', hv', hg', hm'⟩
  · refine ag_no (k := 2) (y := sz) rfl ho hC hR ?_ (by decide) (by decide) (fun ρ => ⟨uI M 8 2, 0, ?_, Sd.u8, u8_v⟩)
    · simp only [f_L_isEqual, f_X11_isEqual, hC.xo, Option.bind_some, x_shelfOk hk, x_shelfOk hk', x_valueOn hC hk, x_valueOn hC hk', e1, e1', oq, bs]
      rfl
    · simp only [f_X12_isEqual, Option.bind_some, m_shY hk, m_shY hk', oR_5, oA_5, in12 hk, cl12 hk, in12 hk', cl12 hk', hm.1, e2', if_true]
      exact n2 ρ _ _
  have fin : ∀ (b : Bool) (ρ : Sto), b = decide (iL u = iL u' ∧ iI s = iI s') → f_X12_isEqual (ov mb M ρ) mb (iI (k : Nat)) (iI (k' : Nat)) = some (bI b, ov mb (uI M 8 0) ρ) := by
    intro b ρ hb
    simp only [f_X12_isEqual, Option.bind_some, m_shY hk, m_shY hk', oR_5, oA_5, in12 hk, cl12 hk, in12 hk', cl12 hk', hm.1, hm'.1, if_true]
    show b_X12_isEqual_42 (ov mb M ρ) mb (iI (k : Nat)) (iI (k' : Nat)) 0 mb = _
    unfold b_X12_isEqual_42
    simp only [ov_isO, Option.bind_some, ff0, b2, if_true, oR_3, oA_3, oR_4, oA_4, in12 hk, cl12 hk, in12 hk', cl12 hk', hm.u8.2.1, hm'.u8.2.1, hm.u8.2.2, hm'.u8.2.2]
    subst hb
    by_cases q1 : iL u = iL u'
    · by_cases q2 : iI s = iI s'
      · rw [if_pos q1, if_pos q2, decide_eq_true ⟨q1, q2⟩]; rfl
      · rw [if_pos q1, if_neg q2, decide_eq_false (fun w => q2 w.2)]; rfl
    · rw [if_neg q1, decide_eq_false (fun w => q1 w.1)]; rfl
  have cl : f_X11_isEqual σ (A 0 0) (iI (k : Nat)) (iI (k' : Nat)) = some (.inr (bI (decide (iL u = iL u' ∧ iI s = iI s')))) := by
    simp only [f_X11_isEqual, hC.xo, Option.bind_some, x_shelfOk hk, x_shelfOk hk', x_valueOn hC hk, x_valueOn hC hk', e1, e1', oq, bs, hv.u, hv'.u, hv.s, hv'.s]
    by_cases q1 : iL u = iL u'
    · by_cases q2 : iI s = iI s'
      · rw [if_pos q1, if_pos q2, decide_eq_true ⟨q1, q2⟩]; rfl
      · rw [if_pos q1, if_neg q2, decide_eq_false (fun w => q2 w.2)]; rfl
    · rw [if_neg q1, decide_eq_false (fun w => q1 w.1)]; rfl
  cases hb : decide (iL u = iL u' ∧ iI s = iI s') with
  | false =>
    refine ag_ok (v := 0) (y := sz) rfl ho ?_ hC (fun ρ => ⟨uI M 8 0, 0, fin false ρ hb.symm, u8_v, rfl, (hR.sd Sd.u8).up⟩)
    simp only [f_L_isEqual, hC.xo, Option.bind_some, cl, hb, bs]
    rfl
  | true =>
    refine ag_ok (v := 1) (y := sz) rfl ho ?_ hC (fun ρ => ⟨uI M 8 0, 1, fin true ρ hb.symm, u8_v, rfl, (hR.sd Sd.u8).up⟩)
    simp only [f_L_isEqual, hC.xo, Option.bind_some, cl, hb, bs]
    rfl
