/-! ===== taxes of the reference; net, taxOf, netOfLine, cash ===== -/
section BK
variable {mb ni i lc cur N : Nat} {by_ b : Bool} {m : Int32} {E T : Nat → Nat} {A : AM} {W : WM} {K : KS} {M : MS} {σ : Sto}
theorem m_taxesOf (hB : Bm i lc cur by_ m E T M) (hE : ∀ j, j < lc → E j ≤ 9999999 * 999999 * 1000) (hT : ∀ j, j < lc → T j ≤ 9999) (hi : i < 20) (hc : cur < 4) (hlc : lc ≤ 12) (hf : M.1 2 = bI b) (hN : 1000 ≤ N) : ∃ M', f_X12_taxesOf N (ov mb M σ) mb (iI (i : Nat)) = some (iL (sN (taxV by_ m E T lc) lc : Nat), ov mb M' σ) ∧ Sx (b || aB (taxP by_ m E T lc) lc) M M' := by
  have bb2 : ∀ {α β γ : Type} (x : α) (y : β) (f : α → β → Option γ), b2 (some (x, y)) f = f x y := fun _ _ _ => rfl
  have i20 : inB (iI (i : Nat)) 20 = true := inN hi (by decide)
  have k20 : (iI (i : Nat)).toNatClampNeg = i := clN (by omega)
  unfold f_X12_taxesOf b_X12_taxesOf_5
  refine lp_ex (n := lc) (Inv := fun k a => ∃ M', a = (ov mb M' σ, mb, iI (i : Nat), iL (sN (taxV by_ m E T lc) k : Nat), iI (k : Nat)) ∧ Sx (b || aB (taxP by_ m E T lc) k) M M') (Post := fun r => ∃ M', r = some (iL (sN (taxV by_ m E T lc) lc : Nat), ov mb M' σ) ∧ Sx (b || aB (taxP by_ m E T lc) lc) M M') (fun k a hk hI => ?_) (fun a hI KK => ?_) N 0 _ (Nat.zero_le _) (by omega) ⟨M, rfl, Sd.rf, rfl, hf.trans (by cases b <;> rfl)⟩
  · obtain ⟨M', rfl, hS⟩ := hI
    have hB0 := hB.sd hS.1
    have hB' := hB0
    obtain ⟨c1, c2, c3, c4, c5⟩ := hB'
    obtain ⟨d1, d2⟩ := c5 k hk
    have hEk := hE k hk
    have hTk := hT k hk
    have g1 := nG_le (m := m) hEk
    have i240 : inB (iI ((12 * i + k : Nat) : Int)) 240 = true := inN (by omega) (by decide)
    have k240 : (iI ((12 * i + k : Nat) : Int)).toNatClampNeg = 12 * i + k := clN (by omega)
    have e12 : (12 : Int32) * iI (i : Nat) + iI (k : Nat) = iI ((12 * i + k : Nat) : Int) := by rw [iI_lit 12, jI_mul, jI_add]
    have hle : ¬ iI (lc : Nat) ≤ iI (k : Nat) := fun w => by rw [jI_le (by omega) (by omega)] at w; omega
    have bor : (b || aB (taxP by_ m E T lc) (k + 1)) = ((b || aB (taxP by_ m E T lc) k) || taxP by_ m E T lc k) := (Bool.or_assoc _ _ _).symm
    cases by_ with
    | true =>
      obtain ⟨M2, g2, g3⟩ := m_rnet (mb := mb) (σ := σ) (N := N) (a := E k) hB0 hi hc hS.2.2 (by omega) hN
      have hB2 := hB0.sd g3.1
      obtain ⟨M3, g4, g5⟩ := m_part (mb := mb) (σ := σ) (N := N) (a := nG m E k) (f := T k) (d := 10000) hB2 hi hc g3.2.2 (by omega) (by omega) (by decide) (by decide) hN
      refine ⟨(ov mb M3 σ, mb, iI (i : Nat), iL (sN (taxV true m E T lc) (k + 1) : Nat), iI ((k + 1 : Nat) : Int)), ⟨M3, rfl, ?_⟩, fun KK => ?_⟩
      · rw [bor, taxP_t, ← Bool.or_assoc]
        exact (hS.tr g3).tr g5
      · have c3' : ¬ M'.2.1 25 i = 0 := by rw [c3]; decide
        have g4' : f_X12_part N (ov mb M2 σ) mb (iL (rq false m (E k) 1000000 : Nat)) (iI (T k : Nat)) 10000 (iI (i : Nat)) = some (iL (rq false m (nG m E k * T k) 10000 : Nat), ov mb M3 σ) := g4
        dsimp only
        unfold b_X12_taxesOf_5_body b_X12_taxesOf_181
        simp only [oR_24, oR_25, oR_27, oR_28, oA_24, oA_25, oA_27, oA_28, i20, k20, e12, i240, k240, if_true, Option.bind_some, c2, if_neg hle, if_neg c3', d1, d2, lt_, jL_add, jI_s, ov_isO, g2, bb2, g4']
        rfl
    | false =>
      have c3' : M'.2.1 25 i = 0 := c3
      have t0 : iI (T k : Nat) ≤ 0 ↔ T k = 0 := by rw [iI_lit 0, jI_le (by omega) (by omega)]; omega
      have run : ∀ KK : Sto × Nat × Int32 × Int64 × Int32 → Option (Int64 × Sto), b_X12_taxesOf_5_body N KK (ov mb M' σ) mb (iI (i : Nat)) (iL (sN (taxV false m E T lc) k : Nat)) (iI (k : Nat)) = b_X12_taxesOf_90 N KK (ov mb M' σ) mb (iI (i : Nat)) (iL (sN (taxV false m E T lc) k : Nat)) (iI (k : Nat)) (iI (T k : Nat)) (bI (decide (T k ≠ 0))) 0 0 := by
        intro KK
        unfold b_X12_taxesOf_5_body b_X12_taxesOf_82
        simp only [oR_24, oR_25, oR_28, oA_24, oA_25, oA_28, i20, k20, e12, i240, k240, if_true, Option.bind_some, c2, if_neg hle, c3', d2, t0]
        by_cases h : T k = 0
        · rw [if_pos h, decide_eq_false (fun w => w h)]; rfl
        · rw [if_neg h, decide_eq_true h]; rfl
      by_cases h : aB (alk T k) lc = true ∨ T k = 0
      · refine ⟨(ov mb M' σ, mb, iI (i : Nat), iL (sN (taxV false m E T lc) (k + 1) : Nat), iI ((k + 1 : Nat) : Int)), ⟨M', rfl, ?_⟩, fun KK => ?_⟩
        · rw [bor, taxP_f, if_pos h, Bool.or_false]
          exact hS
        · dsimp only
          rw [run, m_like hB0 hT hi hlc hN hk, if_pos]
          · have : taxV false m E T lc k = 0 := by rw [taxV_f, if_pos h]
            show _ = KK (ov mb M' σ, mb, iI (i : Nat), iL ((sN (taxV false m E T lc) k + taxV false m E T lc k : Nat) : Int), iI ((k + 1 : Nat) : Int))
            rw [this]
            rfl
          · rcases h with h | h
            · rw [h, Bool.not_true, Bool.and_false]
            · rw [decide_eq_false (fun w => w h), Bool.false_and]
      · have hs : sN (lik E T k) lc ≤ 9999999 * 999999 * 1000 * lc := sN_le (fun v hv => by
          unfold lik
          have := hE v hv
          split <;> omega)
        obtain ⟨M2, g4, g5⟩ := m_part (mb := mb) (σ := σ) (N := N) (a := sN (lik E T k) lc) (f := T k) (d := 10000000000) hB0 hi hc hS.2.2 (by omega) (by omega) (by decide) (by decide) hN
        refine ⟨(ov mb M2 σ, mb, iI (i : Nat), iL (sN (taxV false m E T lc) (k + 1) : Nat), iI ((k + 1 : Nat) : Int)), ⟨M2, rfl, ?_⟩, fun KK => ?_⟩
        · rw [bor, taxP_f, if_neg h]
          exact hS.tr g5
        · have g4' : f_X12_part N (ov mb M' σ) mb (iL (sN (lik E T k) lc : Nat)) (iI (T k : Nat)) 10000000000 (iI (i : Nat)) = some (iL (rq false m (sN (lik E T k) lc * T k) 10000000000 : Nat), ov mb M2 σ) := g4
          dsimp only
          have ha : aB (alk T k) lc = false := by cases q : aB (alk T k) lc with
            | true => exact absurd (Or.inl q) h
            | false => rfl
          have h0 : T k ≠ 0 := fun w => h (Or.inr w)
          rw [run, m_like hB0 hT hi hlc hN hk, if_neg (by rw [ha, decide_eq_true h0]; decide), g4', bb2, jL_add]
          have : taxV false m E T lc k = rq false m (sN (lik E T k) lc * T k) 10000000000 := by rw [taxV_f, if_neg h]
          show _ = KK (ov mb M2 σ, mb, iI (i : Nat), iL ((sN (taxV false m E T lc) k + taxV false m E T lc k : Nat) : Int), iI ((k + 1 : Nat) : Int))
          rw [this]
  · obtain ⟨M', rfl, hS⟩ := hI
    have hB' := hB.sd hS.1
    obtain ⟨c1, c2, c3, c4, c5⟩ := hB'
    have hle : iI (lc : Nat) ≤ iI (lc : Nat) := by rw [jI_le (by omega) (by omega)]; omega
    refine ⟨M', ?_, hS⟩
    dsimp only
    unfold b_X12_taxesOf_5_body
    simp only [oR_24, oA_24, i20, k20, if_true, Option.bind_some, c2, if_pos hle]
end BK
theorem x_cells {mb ni : Nat} {A : AM} {W : WM} {K : KS} {M : MS} {σ : Sto} (hC : Cf mb ni A W K M σ) {i : Nat} (hi : i < ni) : isO σ (A 29 i) 2 = some () := by
  have := xO_29 (K := K) (σ := σ) hC.1 hi
  rw [hC.eqk] at this
  exact this
theorem p_net {xb mb ob N : Nat} (hN : 1000 ≤ N) : A_net (I0 xb mb ob) N xb mb ob := by
  intro v
  refine ag_in (fun n σ sz ni A W K M hn hA ho hC hR hF => ?_)
  subst hA
  have bb2 : ∀ {α β γ : Type} (x : α) (y : β) (f : α → β → Option γ), b2 (some (x, y)) f = f x y := fun _ _ _ => rfl
  rcases iv_cases hC hR.2.2.2.2.2.1 (v := v) with ⟨h1, h2⟩ | ⟨i, rfl, hi, h1, h2⟩
  · refine ag_no (k := 1) (y := sz) rfl ho hC hR ?_ (by decide) (by decide) (fun ρ => ⟨uI M 8 1, 0, ?_, Sd.u8, u8_v⟩)
    · simp only [f_L_net, f_X11_net, hC.xo, Option.bind_some, h1, bs]
      rfl
    · unfold f_X12_net
      rw [ov_isO, Option.bind_some, h2, Option.bind_some, if_pos rfl]
      unfold b_X12_net_14
      rw [ov_isO, Option.bind_some, ff1, bb2, if_neg (by decide)]
  obtain ⟨lc, cur, by_, m, E, T, hB, hBm⟩ := bl_of hR hi
  have hB0 := hB
  obtain ⟨⟨b1, b2', b3', b4, b5⟩, -, -, -, -, c5⟩ := hB0
  have key : f_X11_net N σ (A 0 0) (iI (i : Nat)) = some (if netP by_ m E lc = true then .inl 3 else .inr (iL (netV by_ m E lc : Nat))) := by
    have x1 := x_modeOf (σ := σ) hC.1 hB
    have x2 := x_netSum (σ := σ) (N := N) hC.1 hB (by omega)
    rw [hC.eqk] at x1 x2
    unfold f_X11_net
    rw [hC.xo, Option.bind_some, h1, Option.bind_some]
    dsimp only [bs]
    rw [x1, Option.bind_some, x_cells hC hi, Option.bind_some, x2, Option.bind_some]
    cases netP by_ m E lc <;> rfl
  have run : ∀ ρ, ∃ M2, Sx (netP by_ m E lc) (uI (uI M 8 0) 2 0) M2 ∧ f_X12_net N (ov mb M ρ) mb (iI (i : Nat)) = if M2.1 2 = 0 then b_X12_net_46 N (ov mb M2 ρ) (iL (netV by_ m E lc : Nat)) 0 mb else b_X12_net_46 N (ov mb M2 ρ) (iL (netV by_ m E lc : Nat)) 2 mb := by
    intro ρ
    have hB2 : Bm i lc cur by_ m E T (uI (uI M 8 0) 2 0) := hBm.sd (Sd.u8.tr Sc.ui.sd)
    obtain ⟨M2, g1, g2⟩ := m_netOf (mb := mb) (σ := ρ) (b := false) (N := N) hB2 (fun j hj => (c5 j hj).1) (by omega) b4 b3' (by rw [uI_v, if_pos rfl]; rfl) hN
    rw [Bool.false_or] at g2
    refine ⟨M2, g2, ?_⟩
    unfold f_X12_net
    rw [ov_isO, Option.bind_some, h2, Option.bind_some, if_neg (by decide)]
    unfold b_X12_net_14
    rw [ov_isO, Option.bind_some, ff0, bb2, if_pos rfl, oP_2, Option.bind_some, ov_isO, Option.bind_some, g1, bb2, oI_2, Option.bind_some]
  cases hP : netP by_ m E lc with
  | true =>
    rw [hP, if_pos rfl] at key
    refine ag_ex (k := 2) (y := sz) rfl ho ?_ hC (by decide) (by decide) (fun ρ => ?_)
    · simp only [f_L_net, hC.xo, Option.bind_some, key, bs]
      rfl
    · obtain ⟨M2, g1, g2⟩ := run ρ
      rw [hP] at g1
      refine ⟨uI M2 8 2, 0, ?_, u8_v, ((hR.sd (((Sd.u8.tr Sc.ui.sd).tr g1.1).tr Sd.u8)).up)⟩
      rw [g2, g1.2.2, if_neg (by decide)]
      unfold b_X12_net_46
      rw [ov_isO, Option.bind_some, ff2, bb2, if_neg (by decide)]
  | false =>
    rw [hP, if_neg (by decide)] at key
    refine ag_ok (v := iL (netV by_ m E lc : Nat)) (y := sz) rfl ho ?_ hC (fun ρ => ?_)
    · simp only [f_L_net, hC.xo, Option.bind_some, key, bs]
    · obtain ⟨M2, g1, g2⟩ := run ρ
      rw [hP] at g1
      refine ⟨uI M2 8 0, _, ?_, u8_v, rfl, ((hR.sd (((Sd.u8.tr Sc.ui.sd).tr g1.1).tr Sd.u8)).up)⟩
      rw [g2, g1.2.2, if_pos (by decide)]
      unfold b_X12_net_46
      rw [ov_isO, Option.bind_some, ff0, bb2, if_pos rfl]
theorem p_taxOf {xb mb ob N : Nat} (hN : 1000 ≤ N) : A_taxOf (I0 xb mb ob) N xb mb ob := by
  intro v
  refine ag_in (fun n σ sz ni A W K M hn hA ho hC hR hF => ?_)
  subst hA
  have bb2 : ∀ {α β γ : Type} (x : α) (y : β) (f : α → β → Option γ), b2 (some (x, y)) f = f x y := fun _ _ _ => rfl
  rcases iv_cases hC hR.2.2.2.2.2.1 (v := v) with ⟨h1, h2⟩ | ⟨i, rfl, hi, h1, h2⟩
  · refine ag_no (k := 1) (y := sz) rfl ho hC hR ?_ (by decide) (by decide) (fun ρ => ⟨uI M 8 1, 0, ?_, Sd.u8, u8_v⟩)
    · simp only [f_L_taxOf, f_X11_taxOf, hC.xo, Option.bind_some, h1, bs]
      rfl
    · unfold f_X12_taxOf
      rw [ov_isO, Option.bind_some, h2, Option.bind_some, if_pos rfl]
      unfold b_X12_taxOf_14
      rw [ov_isO, Option.bind_some, ff1, bb2, if_neg (by decide)]
  obtain ⟨lc, cur, by_, m, E, T, hB, hBm⟩ := bl_of hR hi
  have hB0 := hB
  obtain ⟨⟨b1, b2', b3', b4, b5⟩, -, -, -, -, c5⟩ := hB0
  have key : f_X11_taxOf N σ (A 0 0) (iI (i : Nat)) = some (if aB (taxP by_ m E T lc) lc = true then .inl 3 else .inr (iL (sN (taxV by_ m E T lc) lc : Nat))) := by
    have x1 := x_modeOf (σ := σ) hC.1 hB
    have x2 := x_taxSum (σ := σ) (N := N) hC.1 hB (by omega)
    rw [hC.eqk] at x1 x2
    unfold f_X11_taxOf
    rw [hC.xo, Option.bind_some, h1, Option.bind_some]
    dsimp only [bs]
    rw [x1, Option.bind_some, x_cells hC hi, Option.bind_some, x2, Option.bind_some]
    cases aB (taxP by_ m E T lc) lc <;> rfl
  have run : ∀ ρ, ∃ M2, Sx (aB (taxP by_ m E T lc) lc) (uI (uI M 8 0) 2 0) M2 ∧ f_X12_taxOf N (ov mb M ρ) mb (iI (i : Nat)) = if M2.1 2 = 0 then b_X12_taxOf_46 N (ov mb M2 ρ) (iL (sN (taxV by_ m E T lc) lc : Nat)) 0 mb else b_X12_taxOf_46 N (ov mb M2 ρ) (iL (sN (taxV by_ m E T lc) lc : Nat)) 2 mb := by
    intro ρ
    have hB2 : Bm i lc cur by_ m E T (uI (uI M 8 0) 2 0) := hBm.sd (Sd.u8.tr Sc.ui.sd)
    obtain ⟨M2, g1, g2⟩ := m_taxesOf (mb := mb) (σ := ρ) (b := false) (N := N) hB2 (fun j hj => (c5 j hj).1) (fun j hj => (c5 j hj).2.1) (by omega) b4 b3' (by rw [uI_v, if_pos rfl]; rfl) hN
    rw [Bool.false_or] at g2
    refine ⟨M2, g2, ?_⟩
    unfold f_X12_taxOf
    rw [ov_isO, Option.bind_some, h2, Option.bind_some, if_neg (by decide)]
    unfold b_X12_taxOf_14
    rw [ov_isO, Option.bind_some, ff0, bb2, if_pos rfl, oP_2, Option.bind_some, ov_isO, Option.bind_some, g1, bb2, oI_2, Option.bind_some]
  cases hP : aB (taxP by_ m E T lc) lc with
  | true =>
    rw [hP, if_pos rfl] at key
    refine ag_ex (k := 2) (y := sz) rfl ho ?_ hC (by decide) (by decide) (fun ρ => ?_)
    · simp only [f_L_taxOf, hC.xo, Option.bind_some, key, bs]
      rfl
    · obtain ⟨M2, g1, g2⟩ := run ρ
      rw [hP] at g1
      refine ⟨uI M2 8 2, 0, ?_, u8_v, ((hR.sd (((Sd.u8.tr Sc.ui.sd).tr g1.1).tr Sd.u8)).up)⟩
      rw [g2, g1.2.2, if_neg (by decide)]
      unfold b_X12_taxOf_46
      rw [ov_isO, Option.bind_some, ff2, bb2, if_neg (by decide)]
  | false =>
    rw [hP, if_neg (by decide)] at key
    refine ag_ok (v := iL (sN (taxV by_ m E T lc) lc : Nat)) (y := sz) rfl ho ?_ hC (fun ρ => ?_)
    · simp only [f_L_taxOf, hC.xo, Option.bind_some, key, bs]
    · obtain ⟨M2, g1, g2⟩ := run ρ
      rw [hP] at g1
      refine ⟨uI M2 8 0, _, ?_, u8_v, rfl, ((hR.sd (((Sd.u8.tr Sc.ui.sd).tr g1.1).tr Sd.u8)).up)⟩
      rw [g2, g1.2.2, if_pos (by decide)]
      unfold b_X12_taxOf_46
      rw [ov_isO, Option.bind_some, ff0, bb2, if_pos rfl]
