/-! ===== netOfLine, cash ===== -/
theorem p_netOfLine {xb mb ob N : Nat} (hN : 1000 ≤ N) : A_netOfLine (I0 xb mb ob) N xb mb ob := by
  intro v w
  refine ag_in (fun n σ sz ni A W K M hn hA ho hC hR hF => ?_)
  subst hA
  have bb2 : ∀ {α β γ : Type} (x : α) (y : β) (f : α → β → Option γ), b2 (some (x, y)) f = f x y := fun _ _ _ => rfl
  have no : ∀ (ρ : Sto), b_X12_netOfLine_27 N (ov mb M ρ) mb v w mb = some (0, ov mb (uI M 8 1) ρ) := by
    intro ρ
    unfold b_X12_netOfLine_27 b_X12_netOfLine_32
    rw [ov_isO, Option.bind_some, ff1, bb2, if_neg (by decide)]
  rcases iv_cases hC hR.2.2.2.2.2.1 (v := v) with ⟨h1, h2⟩ | ⟨i, rfl, hi, h1, h2⟩
  · refine ag_no (k := 1) (y := sz) rfl ho hC hR ?_ (by decide) (by decide) (fun ρ => ⟨uI M 8 1, 0, ?_, Sd.u8, u8_v⟩)
    · simp only [f_L_netOfLine, f_X11_netOfLine, hC.xo, Option.bind_some, h1, bs]
      rfl
    · unfold f_X12_netOfLine
      rw [ov_isO, Option.bind_some, h2, Option.bind_some, if_pos rfl]
      exact no ρ
  obtain ⟨lc, cur, by_, m, E, T, hB, hBm⟩ := bl_of hR hi
  have hB0 := hB
  obtain ⟨⟨b1, b2', b3', b4, b5⟩, -, c2, -, -, c5⟩ := hB0
  have i20 : inB (iI (i : Nat)) 20 = true := inN (by omega) (by decide)
  have k20 : (iI (i : Nat)).toNatClampNeg = i := clN (by omega)
  have m24 : M.2.1 24 i = iI (lc : Nat) := hBm.2.1
  have xl : gI σ (A 29 i) 2 2 = some (iI (lc : Nat)) := by
    have := xI_29_2 (K := K) (σ := σ) hC.1 hi
    rw [hC.eqk, c2] at this
    exact this
  rcases pl_cases (v := w) lc (by omega) with ⟨j, rfl, hj, m1, l0, ln⟩ | ⟨m1, hv⟩
  case inr =>
    refine ag_no (k := 1) (y := sz) rfl ho hC hR ?_ (by decide) (by decide) (fun ρ => ⟨uI M 8 1, 0, ?_, Sd.u8, u8_v⟩)
    · have key : f_X11_netOfLine σ (A 0 0) (iI (i : Nat)) w = some (.inl 0) := by
        unfold f_X11_netOfLine
        rw [hC.xo, Option.bind_some, h1, Option.bind_some]
        dsimp only [bs]
        rcases hv with h | ⟨h, h'⟩
        · rw [if_pos h]
        · rw [if_neg h, xl, Option.bind_some, if_neg h']
      simp only [f_L_netOfLine, hC.xo, Option.bind_some, key, bs]
      rfl
    · unfold f_X12_netOfLine
      rw [ov_isO, Option.bind_some, h2, Option.bind_some, if_neg (by decide), oR_24, Option.bind_some, oA_24, i20, if_pos rfl, k20, Option.bind_some, m24, m1, Option.bind_some, if_pos rfl]
      exact no ρ
  have i240 : inB (iI ((12 * i + j : Nat) : Int)) 240 = true := inN (by omega) (by decide)
  have k240 : (iI ((12 * i + j : Nat) : Int)).toNatClampNeg = 12 * i + j := clN (by omega)
  have e12 : (12 : Int32) * iI (i : Nat) + iI (j : Nat) = iI ((12 * i + j : Nat) : Int) := by rw [iI_lit 12, jI_mul, jI_add]
  have key : f_X11_netOfLine σ (A 0 0) (iI (i : Nat)) (iI (j : Nat)) = some (if nF m E j = true then .inl 3 else .inr (iL (nG m E j : Nat))) := by
    have x1 := x_modeOf (σ := σ) hC.1 hB
    have x2 := x_lineNet (σ := σ) hC.1 hB hj
    rw [hC.eqk] at x1 x2
    unfold f_X11_netOfLine
    rw [hC.xo, Option.bind_some, h1, Option.bind_some]
    dsimp only [bs]
    rw [if_neg l0, xl, Option.bind_some, if_pos ln, x1, Option.bind_some, x_cells hC hi, Option.bind_some, x2, Option.bind_some]
    cases nF m E j <;> rfl
  have run : ∀ ρ, ∃ M2, Sx (nF m E j) (uI (uI M 8 0) 2 0) M2 ∧ f_X12_netOfLine N (ov mb M ρ) mb (iI (i : Nat)) (iI (j : Nat)) = if M2.1 2 = 0 then b_X12_netOfLine_75 N (ov mb M2 ρ) (iL (nG m E j : Nat)) 0 mb else b_X12_netOfLine_75 N (ov mb M2 ρ) (iL (nG m E j : Nat)) 2 mb := by
    intro ρ
    have hB2 : Bm i lc cur by_ m E T (uI (uI M 8 0) 2 0) := hBm.sd (Sd.u8.tr Sc.ui.sd)
    have hEj := (c5 j hj).1
    obtain ⟨M2, g1, g2⟩ := m_rnet (mb := mb) (σ := ρ) (b := false) (N := N) (a := E j) hB2 (by omega) b4 (by rw [uI_v, if_pos rfl]; rfl) (by omega) hN
    rw [Bool.false_or] at g2
    refine ⟨M2, g2, ?_⟩
    have d1 : (uI (uI M 8 0) 2 0).2.2 27 (12 * i + j) = iL (E j : Nat) := (hB2.2.2.2.2 j hj).1
    unfold f_X12_netOfLine
    rw [ov_isO, Option.bind_some, h2, Option.bind_some, if_neg (by decide), oR_24, Option.bind_some, oA_24, i20, if_pos rfl, k20, Option.bind_some, m24, m1, Option.bind_some, if_neg (by decide)]
    unfold b_X12_netOfLine_32
    rw [ov_isO, Option.bind_some, ff0, bb2, if_pos rfl, oP_2, Option.bind_some, oR_27, Option.bind_some, e12, oA_27, i240, if_pos rfl, k240, Option.bind_some, d1, ov_isO, Option.bind_some, g1, bb2, oI_2, Option.bind_some]
    rfl
  cases hP : nF m E j with
  | true =>
    rw [hP, if_pos rfl] at key
    refine ag_ex (k := 2) (y := sz) rfl ho ?_ hC (by decide) (by decide) (fun ρ => ?_)
    · simp only [f_L_netOfLine, hC.xo, Option.bind_some, key, bs]
      rfl
    · obtain ⟨M2, g1, g2⟩ := run ρ
      rw [hP] at g1
      refine ⟨uI M2 8 2, 0, ?_, u8_v, ((hR.sd (((Sd.u8.tr Sc.ui.sd).tr g1.1).tr Sd.u8)).up)⟩
      rw [g2, g1.2.2, if_neg (by decide)]
      unfold b_X12_netOfLine_75
      rw [ov_isO, Option.bind_some, ff2, bb2, if_neg (by decide)]
  | false =>
    rw [hP, if_neg (by decide)] at key
    refine ag_ok (v := iL (nG m E j : Nat)) (y := sz) rfl ho ?_ hC (fun ρ => ?_)
    · simp only [f_L_netOfLine, hC.xo, Option.bind_some, key, bs]
    · obtain ⟨M2, g1, g2⟩ := run ρ
      rw [hP] at g1
      refine ⟨uI M2 8 0, _, ?_, u8_v, rfl, ((hR.sd (((Sd.u8.tr Sc.ui.sd).tr g1.1).tr Sd.u8)).up)⟩
      rw [g2, g1.2.2, if_pos (by decide)]
      unfold b_X12_netOfLine_75
      rw [ov_isO, Option.bind_some, ff0, bb2, if_pos rfl]
theorem rq_104 {s c : Nat} (hc : 0 < c) : rq false 104 s c * c = s - s % c + (if 2 * (s % c) < c then 0 else c) := by
  have h := Nat.div_add_mod s c
  have h2 : s - s % c = s / c * c := by rw [Nat.mul_comm]; omega
  have e : rUp false 104 (s / c) (s % c) c = decide (c ≤ s % c + s % c) := by
    unfold rUp
    rw [if_neg (by decide), if_neg (by decide), if_neg (by decide), if_pos rfl]
  rw [h2]
  unfold rq
  rw [e]
  by_cases h3 : 2 * (s % c) < c
  · rw [if_pos h3, if_neg (fun w => by have := of_decide_eq_true w.2; omega)]
    rfl
  · rw [if_neg h3, if_pos ⟨by omega, decide_eq_true (by omega)⟩, Nat.add_mul, Nat.one_mul]
theorem p_cash {xb mb ob N : Nat} (hN : 1000 ≤ N) : A_cash (I0 xb mb ob) N xb mb ob := by
  intro v
  refine ag_in (fun n σ sz ni A W K M hn hA ho hC hR hF => ?_)
  subst hA
  have bb2 : ∀ {α β γ : Type} (x : α) (y : β) (f : α → β → Option γ), b2 (some (x, y)) f = f x y := fun _ _ _ => rfl
  rcases iv_cases hC hR.2.2.2.2.2.1 (v := v) with ⟨h1, h2⟩ | ⟨i, rfl, hi, h1, h2⟩
  · refine ag_no (k := 1) (y := sz) rfl ho hC hR ?_ (by decide) (by decide) (fun ρ => ⟨uI M 8 1, 0, ?_, Sd.u8, u8_v⟩)
    · simp only [f_L_cash, f_X11_cash, hC.xo, Option.bind_some, h1, bs]
      rfl
    · unfold f_X12_cash
      rw [ov_isO, Option.bind_some, h2, Option.bind_some, if_pos rfl]
      unfold b_X12_cash_14
      rw [ov_isO, Option.bind_some, ff1, bb2, if_neg (by decide)]
  obtain ⟨lc, cur, by_, m, E, T, hB, hBm⟩ := bl_of hR hi
  have hB0 := hB
  obtain ⟨⟨b1, b2', b3', b4, b5⟩, c1, c2, -, -, c5⟩ := hB0
  obtain ⟨dd, co, mm, o1, o2, o3, o4, o5, o6, o7, o8, o9, o10⟩ := hR.2.2.1 cur b4
  have n1 : netV by_ m E lc ≤ 10000000000 * 12 + 1 := by
    cases by_ with
    | true =>
      rw [netV_t]
      have : sN (nG m E) lc ≤ 10000000000 * lc := sN_le (fun j hj => nG_le (c5 j hj).1)
      omega
    | false =>
      rw [netV_f]
      have h3 : sN E lc ≤ 9999999 * 999999 * 1000 * lc := sN_le (fun j hj => (c5 j hj).1)
      have := (rq_le false m (sN E lc) 1000000).2
      omega
  have n2 : sN (taxV by_ m E T lc) lc ≤ 1000000000000 * lc := by
    refine sN_le (fun j hj => ?_)
    have t := (c5 j hj).2.1
    cases by_ with
    | true =>
      rw [taxV_t]
      have g1 := nG_le (m := m) (c5 j hj).1
      have g2 : nG m E j * T j ≤ 10000000000 * 9999 := Nat.mul_le_mul g1 t
      have := (rq_le false m (nG m E j * T j) 10000).2
      omega
    | false =>
      rw [taxV_f]
      by_cases h : aB (alk T j) lc = true ∨ T j = 0
      · rw [if_pos h]; omega
      · rw [if_neg h]
        have hs : sN (lik E T j) lc ≤ 9999999 * 999999 * 1000 * lc := sN_le (fun v hv => by
          unfold lik
          have := (c5 v hv).1
          split <;> omega)
        have hx : sN (lik E T j) lc * T j ≤ 9999999 * 999999 * 1000 * 12 * 9999 := Nat.mul_le_mul (by omega) t
        have := (rq_le false m (sN (lik E T j) lc * T j) 10000000000).2
        omega
  obtain ⟨s, hs⟩ : ∃ s, s = netV by_ m E lc + sN (taxV by_ m E T lc) lc := ⟨_, rfl⟩
  have sle : s ≤ 20000000000000 := by omega
  have key : f_X11_cash N σ (A 0 0) (iI (i : Nat)) = some (if netP by_ m E lc = true ∨ aB (taxP by_ m E T lc) lc = true then .inl 3 else .inr (iL ((rq false 104 s co * co : Nat) : Int))) := by
    have x1 := x_modeOf (σ := σ) hC.1 hB
    have x2 := x_netSum (σ := σ) (N := N) hC.1 hB (by omega)
    have x3 := x_taxSum (σ := σ) (N := N) hC.1 hB (by omega)
    have x4 := xR_0_2 (K := K) (σ := σ) hC.1
    have x5 := xI_29_1 (K := K) (σ := σ) hC.1 hi
    have x6 := xA_4 (K := K) (σ := σ) (i := iI (cur : Nat)) hC.1
    have x7 := xI_25_2 (K := K) (σ := σ) hC.1 b4
    rw [hC.eqk] at x1 x2 x3 x4 x5 x6 x7
    rw [c1] at x5
    rw [o7] at x7
    rw [inN b4 (by decide), if_pos rfl, clN (by omega), show rk A (K.2.2.1 4) 4 cur = some (A 25 cur) from if_pos b4] at x6
    unfold f_X11_cash
    rw [hC.xo, Option.bind_some, h1, Option.bind_some]
    dsimp only [bs]
    rw [x1, Option.bind_some, x_cells hC hi, Option.bind_some, x2, Option.bind_some]
    by_cases hn : netP by_ m E lc = true
    · rw [if_pos hn, if_pos (Or.inl hn)]
    · rw [if_neg hn]
      dsimp only
      rw [Option.bind_some, x3, Option.bind_some]
      by_cases ht : aB (taxP by_ m E T lc) lc = true
      · rw [if_pos ht, if_pos (Or.inr ht)]
      · rw [if_neg ht, if_neg (fun w => w.elim hn ht)]
        dsimp only [lt_]
        rw [x4, Option.bind_some, x5, Option.bind_some, x6, Option.bind_some, Option.bind_some, x7, Option.bind_some, iI_iL ⟨by omega, by omega⟩, jL_add, ← hs, x_quotient (by decide) (by omega) (by omega) (by omega), Option.bind_some, rqR_fl]
        have : fl 104 s co = false := by unfold fl; exact decide_eq_false (fun w => absurd w.2 (by decide))
        rw [if_neg (by rw [this]; decide)]
        dsimp only
        rw [jL_mul]
  have run : ∀ ρ, ∃ M2, Sx (netP by_ m E lc || aB (taxP by_ m E T lc) lc) (uI (uI M 8 0) 2 0) M2 ∧ f_X12_cash N (ov mb M ρ) mb (iI (i : Nat)) = if M2.1 2 = 0 then b_X12_cash_52 N (ov mb M2 ρ) mb (iI (i : Nat)) (iL (s : Nat)) 0 mb else b_X12_cash_52 N (ov mb M2 ρ) mb (iI (i : Nat)) (iL (s : Nat)) 2 mb := by
    intro ρ
    have hB2 : Bm i lc cur by_ m E T (uI (uI M 8 0) 2 0) := hBm.sd (Sd.u8.tr Sc.ui.sd)
    obtain ⟨M2, g1, g2⟩ := m_netOf (mb := mb) (σ := ρ) (b := false) (N := N) hB2 (fun j hj => (c5 j hj).1) (by omega) b4 b3' (by rw [uI_v, if_pos rfl]; rfl) hN
    rw [Bool.false_or] at g2
    obtain ⟨M3, g3, g4⟩ := m_taxesOf (mb := mb) (σ := ρ) (N := N) (hB2.sd g2.1) (fun j hj => (c5 j hj).1) (fun j hj => (c5 j hj).2.1) (by omega) b4 b3' g2.2.2 hN
    refine ⟨M3, g2.tr g4, ?_⟩
    unfold f_X12_cash
    rw [ov_isO, Option.bind_some, h2, Option.bind_some, if_neg (by decide)]
    unfold b_X12_cash_14
    rw [ov_isO, Option.bind_some, ff0, bb2, if_pos rfl, oP_2, Option.bind_some, ov_isO, Option.bind_some, g1, bb2, ov_isO, Option.bind_some, g3, bb2]
    dsimp only [lt_]
    rw [oI_2, Option.bind_some, jL_add, ← hs]
  cases hP : (netP by_ m E lc || aB (taxP by_ m E T lc) lc) with
  | true =>
    have hP' : netP by_ m E lc = true ∨ aB (taxP by_ m E T lc) lc = true := by
      rcases h : netP by_ m E lc with _ | _
      · rw [h, Bool.false_or] at hP; exact Or.inr hP
      · exact Or.inl rfl
    rw [if_pos hP'] at key
    refine ag_ex (k := 2) (y := sz) rfl ho ?_ hC (by decide) (by decide) (fun ρ => ?_)
    · simp only [f_L_cash, hC.xo, Option.bind_some, key, bs]
      rfl
    · obtain ⟨M2, g1, g2⟩ := run ρ
      rw [hP] at g1
      refine ⟨uI M2 8 2, 0, ?_, u8_v, ((hR.sd (((Sd.u8.tr Sc.ui.sd).tr g1.1).tr Sd.u8)).up)⟩
      rw [g2, g1.2.2, if_neg (by decide)]
      unfold b_X12_cash_52
      rw [ov_isO, Option.bind_some, ff2, bb2, if_neg (by decide)]
  | false =>
    have hP' : ¬ (netP by_ m E lc = true ∨ aB (taxP by_ m E T lc) lc = true) := by
      rintro (h | h)
      · rw [h, Bool.true_or] at hP; cases hP
      · rw [h, Bool.or_true] at hP; cases hP
    rw [if_neg hP'] at key
    refine ag_ok (v := iL ((rq false 104 s co * co : Nat) : Int)) (y := sz) rfl ho ?_ hC (fun ρ => ?_)
    · simp only [f_L_cash, hC.xo, Option.bind_some, key, bs]
    · obtain ⟨M2, g1, g2⟩ := run ρ
      rw [hP] at g1
      refine ⟨uI M2 8 0, _, ?_, u8_v, rfl, ((hR.sd (((Sd.u8.tr Sc.ui.sd).tr g1.1).tr Sd.u8)).up)⟩
      rw [g2, g1.2.2, if_pos (by decide)]
      have S3 : Sd M (uI M2 8 0) := ((Sd.u8.tr Sc.ui.sd).tr g1.1).tr Sd.u8
      have e23 : (uI M2 8 0).2.1 23 i = iI (cur : Nat) := by rw [S3.2.1 23 (by decide) (by decide)]; exact hBm.1
      have e10 : (uI M2 8 0).2.1 10 cur = iI (co : Nat) := by rw [S3.2.1 10 (by decide) (by decide)]; exact o10
      have hmod : s % co < co := Nat.mod_lt _ (by omega)
      have hle : s % co ≤ s := Nat.mod_le _ _
      unfold b_X12_cash_52
      rw [ov_isO, Option.bind_some, ff0, bb2, if_pos rfl, oR_10, Option.bind_some, oR_23, Option.bind_some, oA_23, inN (show i < 20 by omega) (by decide), if_pos rfl, clN (by omega), Option.bind_some, e23, oA_10, inN b4 (by decide), if_pos rfl, clN (by omega), Option.bind_some, e10, iI_iL ⟨by omega, by omega⟩, if_neg (fun w => by rw [iL_lit 0, jL_eq (by omega) (by omega)] at w; omega)]
      dsimp only [lt_]
      rw [jL_md (by omega) (by omega), iL_lit 2, jL_mul, rq_104 (by omega)]
      have e3 : iL (s : Nat) - iL ((s % co : Nat) : Int) = iL ((s - s % co : Nat) : Int) := by
        rw [iL_sub]
        exact congrArg iL (by omega)
      rw [e3]
      by_cases h3 : 2 * (s % co) < co
      · rw [if_pos (by rw [jL_lt (by omega) (by omega)]; exact h3), if_pos h3, iL_lit 0, jL_add]
      · rw [if_neg (fun w => h3 (by rw [jL_lt (by omega) (by omega)] at w; exact w)), if_neg h3, jL_add]
