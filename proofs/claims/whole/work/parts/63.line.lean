/-! ===== line ===== -/
theorem bv_le {T : Nat → Nat → Option Int32} {k q b : Nat} {v : Int32} (h : BV T k q v) (hb : ∀ k p v, T k p = some v → ∃ z : Nat, z ≤ b ∧ v = iI (z : Nat)) : ∃ z : Nat, z ≤ b ∧ v = iI (z : Nat) := by
  rcases h with ⟨h, -⟩ | ⟨p, -, h, -⟩
  · exact ⟨0, Nat.zero_le _, h⟩
  · exact hb k p v h
theorem p_line {xb mb ob N : Nat} (hN : 1000 ≤ N) : A_line (I0 xb mb ob) N xb mb ob := by
  intro v1 v2 v3 v4
  refine ag_in (fun n σ sz ni A W K M hn hA ho hC hR hF => ?_)
  subst hA
  have bb2 : ∀ {α β γ : Type} (x : α) (y : β) (f : α → β → Option γ), b2 (some (x, y)) f = f x y := fun _ _ _ => rfl
  have no : ∀ (ρ : Sto) (k : Nat) (v1 v2 v3 v4 : Int32), k ≠ 0 → k < 100 → b_X12_line_78 N (ov mb M ρ) mb v1 v2 v3 v4 (iI (k : Nat)) mb = some (0, ov mb (uI M 8 (iI (k : Nat))) ρ) := by
    intro ρ k v1 v2 v3 v4 h1 h2
    unfold b_X12_line_78
    rw [ov_isO, Option.bind_some, m_fails h2, decide_eq_true (by omega)]
    rfl
  rcases iv_cases hC hR.2.2.2.2.2.1 (v := v1) with ⟨h1, h2⟩ | ⟨i, rfl, hi, h1, h2⟩
  · refine ag_no (k := 1) (y := sz) rfl ho hC hR ?_ (by decide) (by decide) (fun ρ => ⟨uI M 8 1, 0, ?_, Sd.u8, u8_v⟩)
    · simp only [f_L_line, f_X11_line, hC.xo, Option.bind_some, h1, bs, b2]
      rfl
    · unfold f_X12_line
      rw [ov_isO, Option.bind_some, h2, Option.bind_some, if_pos rfl]
      exact no ρ 1 _ _ _ _ (by decide) (by decide)
  rcases ki_cases (v := v2) with ⟨k1, k2⟩ | ⟨k, rfl, hk, k1, k2⟩
  · refine ag_no (k := 1) (y := sz) rfl ho hC hR ?_ (by decide) (by decide) (fun ρ => ⟨uI M 8 1, 0, ?_, Sd.u8, u8_v⟩)
    · simp only [f_L_line, f_X11_line, hC.xo, Option.bind_some, h1, k1, bs, b2]
      rfl
    · unfold f_X12_line
      rw [ov_isO, Option.bind_some, h2, Option.bind_some, if_neg (by decide), k2, Option.bind_some, if_pos rfl]
      exact no ρ 1 _ _ _ _ (by decide) (by decide)
  rcases ra_i (v := v3) 1 999999 (by decide) (by decide) (a' := 1) (b' := 999999) rfl rfl with ⟨d1, d2⟩ | ⟨q, rfl, hq1, hq, d1, d2⟩
  · refine ag_no (k := 2) (y := sz) rfl ho hC hR ?_ (by decide) (by decide) (fun ρ => ⟨uI M 8 2, 0, ?_, Sd.u8, u8_v⟩)
    · simp only [f_L_line, f_X11_line, hC.xo, Option.bind_some, h1, k1, d1, bs, b2]
      rfl
    · unfold f_X12_line
      rw [ov_isO, Option.bind_some, h2, Option.bind_some, if_neg (by decide), k2, Option.bind_some, if_neg (by decide), d2, Option.bind_some, if_pos rfl]
      exact no ρ 2 _ _ _ _ (by decide) (by decide)
  rcases ra_i (v := v4) 0 9999999 (by decide) (by decide) (a' := 0) (b' := 9999999) rfl rfl with ⟨e1, e2⟩ | ⟨x, rfl, -, hx, e1, e2⟩
  · refine ag_no (k := 2) (y := sz) rfl ho hC hR ?_ (by decide) (by decide) (fun ρ => ⟨uI M 8 2, 0, ?_, Sd.u8, u8_v⟩)
    · simp only [f_L_line, f_X11_line, hC.xo, Option.bind_some, h1, k1, d1, e1, bs, b2]
      rfl
    · unfold f_X12_line
      rw [ov_isO, Option.bind_some, h2, Option.bind_some, if_neg (by decide), k2, Option.bind_some, if_neg (by decide), d2, Option.bind_some, if_neg (by decide), e2, Option.bind_some, if_pos rfl]
      exact no ρ 2 _ _ _ _ (by decide) (by decide)
  have hR0 := hR
  obtain ⟨a1, a2, a3, a4, aS, ⟨n1, n2, n3, n4, n5⟩, a7, a8, ⟨c, a, sh, S, hL, hle⟩⟩ := hR0
  have aS0 := aS
  have hb := x_has hC hL (i := i) (N := N) (by omega) (by omega)
  have z26 : M.2.1 26 i = 0 ∨ M.2.1 26 i = 1 := (hL.2.2.2.2.2.2.2.2.2.1 i (by omega)).1
  obtain ⟨g0, d, cur, lc, by_, g1, g2, g3, g4, g5, g6, g7, g8, g9, g10, g11, g12⟩ := n5 i hi
  have i20 : inB (iI (i : Nat)) 20 = true := inN (by omega) (by decide)
  have k20 : (iI (i : Nat)).toNatClampNeg = i := clN (by omega)
  have r10 : gR σ (A 0 0) 10 10 = some (A 17 0) := by
    have := xR_0_10 (K := K) (σ := σ) hC.1
    rw [hC.eqk] at this
    exact this
  have o17 : isO σ (A 17 0) 3 = some () := by
    have := xO_17 (K := K) (σ := σ) hC.1
    rw [hC.eqk] at this
    exact this
  have mrun : ∀ ρ, f_X12_line N (ov mb M ρ) mb (iI (i : Nat)) (iI (k : Nat)) (iI (q : Nat)) (iI (x : Nat)) = if M.2.1 26 i = 0 then (if iI (lc : Nat) = 12 then b_X12_line_78 N (ov mb M ρ) mb (iI (i : Nat)) (iI (k : Nat)) (iI (q : Nat)) (iI (x : Nat)) 4 mb else b_X12_line_78 N (ov mb M ρ) mb (iI (i : Nat)) (iI (k : Nat)) (iI (q : Nat)) (iI (x : Nat)) 0 mb) else b_X12_line_78 N (ov mb M ρ) mb (iI (i : Nat)) (iI (k : Nat)) (iI (q : Nat)) (iI (x : Nat)) 3 mb := by
    intro ρ
    unfold f_X12_line
    rw [ov_isO, Option.bind_some, h2, Option.bind_some, if_neg (by decide), k2, Option.bind_some, if_neg (by decide), d2, Option.bind_some, if_neg (by decide), e2, Option.bind_some, if_neg (by decide)]
    simp only [oR_26, oA_26, oR_24, oA_24, i20, k20, if_true, Option.bind_some, g9]
  by_cases hbk : M.2.1 26 i = 0
  case neg =>
    refine ag_no (k := 3) (y := sz) rfl ho hC hR ?_ (by decide) (by decide) (fun ρ => ⟨uI M 8 3, 0, ?_, Sd.u8, u8_v⟩)
    · simp only [f_L_line, f_X11_line, hC.xo, Option.bind_some, h1, k1, d1, e1, bs, b2, r10, o17, hb, if_neg hbk]
      rfl
    · rw [mrun, if_neg hbk]
      exact no ρ 3 _ _ _ _ (by decide) (by decide)
  have l12 : iI (lc : Nat) = 12 ↔ lc = 12 := by rw [iI_lit 12, jI_eq (by omega) (by omega)]
  have lt12 : iI (lc : Nat) < 12 ↔ lc < 12 := by rw [iI_lit 12, jI_lt (by omega) (by omega)]
  have xl : gI σ (A 29 i) 2 2 = some (iI (lc : Nat)) := by
    have := xI_29_2 (K := K) (σ := σ) hC.1 hi
    rw [hC.eqk, g8] at this
    exact this
  by_cases hlc : lc = 12
  · refine ag_no (k := 4) (y := sz) rfl ho hC hR ?_ (by decide) (by decide) (fun ρ => ⟨uI M 8 4, 0, ?_, Sd.u8, u8_v⟩)
    · simp only [f_L_line, f_X11_line, f_X2_isFull, hC.xo, Option.bind_some, h1, k1, d1, e1, bs, b2, r10, o17, hb, hbk, if_true, x_cells hC hi, xl]
      rw [if_neg (fun w => by have := lt12.mp w; omega)]
      rfl
    · rw [mrun, if_pos hbk, if_pos (l12.mpr hlc)]
      exact no ρ 4 _ _ _ _ (by decide) (by decide)
  obtain ⟨T, D, ct, cd, nt, nd_, t1, t2, t3, t4, t5, t6, t7, t8, t9, t10⟩ := aS
  obtain ⟨u1, u2, u3⟩ := t1 k hk
  obtain ⟨w1, w2, w3⟩ := t2 k hk
  obtain ⟨vt, xt, bt⟩ := x_amountAt (N := N) (σ := σ) (q := d) hC.1 u2 (by omega) (by omega) (by omega) hN
  obtain ⟨vd, xd, bd⟩ := x_amountAt (N := N) (σ := σ) (q := q) hC.1 w2 (by omega) (by omega) (by omega) hN
  obtain ⟨tz, tz1, rfl⟩ := bv_le bt t9
  obtain ⟨dz, dz1, rfl⟩ := bv_le bd t10
  have i12 : inB (iI (lc : Nat)) 12 = true := inN (by omega) (by decide)
  have k12 : (iI (lc : Nat)).toNatClampNeg = lc := clN (by omega)
  obtain ⟨E, hE⟩ : ∃ E : Nat, E = x * q * (1000 - dz) := ⟨_, rfl⟩
  have Ele : E ≤ 9999999 * 999999 * 1000 := by rw [hE]; exact Nat.mul_le_mul (Nat.mul_le_mul hx hq) (by omega)
  have eE : Int32.toInt64 (iI (x : Nat)) * Int32.toInt64 (iI (q : Nat)) * Int32.toInt64 (1000 - iI (dz : Nat)) = iL (E : Nat) := by
    have : (1000 : Int32) - iI (dz : Nat) = iI ((1000 - dz : Nat) : Int) := by
      rw [iI_lit 1000, iI_sub]
      exact congrArg iI (by omega)
    rw [this, iI_iL ⟨by omega, by omega⟩, iI_iL ⟨by omega, by omega⟩, iI_iL ⟨by omega, by omega⟩, jL_mul, jL_mul, ← hE]
  obtain ⟨K', hK'⟩ : ∃ K', K' = kI (kI (kL K 30 i lc (iL (E : Nat))) 31 i lc (iI (tz : Nat))) 29 i 2 (iI ((lc + 1 : Nat) : Int)) := ⟨_, rfl⟩
  have key : f_X11_line N (ovk A W K σ) (A 0 0) (iI (i : Nat)) (iI (k : Nat)) (iI (q : Nat)) (iI (x : Nat)) = some (.inr (iI (lc : Nat)), ovk A W K' σ) := by
    have h1' := h1
    have hb' := hb
    have xo' := hC.xo
    have xl' := xl
    rw [← hC.eqk] at h1' hb' xo' xl'
    have xadd : f_X2_add (ovk A W K σ) (A 29 i) (iL (E : Nat)) (iI (tz : Nat)) = some (iI (lc : Nat), ovk A W K' σ) := by
      have p1 : (kL K 30 i lc (iL (E : Nat))).1 29 i 2 = iI (lc : Nat) := g8
      have p2 : (kI (kL K 30 i lc (iL (E : Nat))) 31 i lc (iI (tz : Nat))).1 29 i 2 = iI (lc : Nat) := g8
      have p3 : K'.1 29 i 2 = iI ((lc + 1 : Nat) : Int) := by rw [hK', kI_v, if_pos ⟨rfl, rfl, rfl⟩]
      unfold f_X2_add b_X2_add_39
      rw [xI_29_2 hC.1 hi, Option.bind_some, g8, if_neg (fun w => by rw [iI_lit 12, jI_le (by omega) (by omega)] at w; omega)]
      simp only [xR_29_4 hC.1 hi, xR_29_5 hC.1 hi, xS_30 hC.1 hi, xS_31 hC.1 hi, xI_29_2 hC.1 hi, xP_29_2 hC.1 hi, Option.bind_some, g8, p1, p2, i12, k12, if_true, jI_s, ← hK', p3, jI_p]
    unfold f_X11_line
    rw [xo', Option.bind_some, h1', Option.bind_some]
    dsimp only [bs]
    rw [k1, Option.bind_some]
    dsimp only
    rw [d1, Option.bind_some]
    dsimp only
    rw [e1, Option.bind_some]
    dsimp only
    rw [xR_0_10 hC.1, Option.bind_some, xO_17 hC.1, Option.bind_some, hb', Option.bind_some, if_pos hbk, xO_29 hC.1 hi, Option.bind_some]
    unfold f_X2_isFull
    rw [xl', Option.bind_some, if_pos (lt12.mpr (by omega)), Option.bind_some, if_pos rfl, xR_0_5 hC.1, Option.bind_some, xA_7 hC.1, inN hk (by decide), if_pos rfl, clN (by omega), Option.bind_some, show rk A (K.2.2.1 7) 7 k = some (A 26 (2 * k + 1)) from if_pos hk, Option.bind_some, xO_26 hC.1 (by omega), Option.bind_some, xd, Option.bind_some]
    dsimp only [lt_]
    rw [eE, xR_0_4 hC.1, Option.bind_some, xA_6 hC.1, inN hk (by decide), if_pos rfl, clN (by omega), Option.bind_some, show rk A (K.2.2.1 6) 6 k = some (A 26 (2 * k)) from if_pos hk, Option.bind_some, xI_29_0 hC.1 hi, Option.bind_some, g4, xO_26 hC.1 (by omega), Option.bind_some, xt, Option.bind_some, xadd, bb2]
  rw [hC.eqk] at key
  obtain ⟨M', hM'⟩ : ∃ M', M' = uA (uA (uL (uI M 8 0) 27 (12 * i + lc) (iL (E : Nat))) 28 (12 * i + lc) (iI (tz : Nat))) 24 i (iI ((lc + 1 : Nat) : Int)) := ⟨_, rfl⟩
  refine ag_ok (v := (iI (lc : Nat)).toInt64) (y := sz) rfl ho ?_ (hC.cls (K' := K')) (fun ρ => ⟨M', iI (lc : Nat), ?_, ?_, rfl, ?_⟩)
  · simp only [f_L_line, hC.xo, Option.bind_some, key, bb2, bs]
  · have t5' : (uI M 8 0).1 20 = iI (nt : Nat) := t5
    have t6' : (uI M 8 0).1 21 = iI (nd_ : Nat) := t6
    have g9' : (uI M 8 0).2.1 24 i = iI (lc : Nat) := g9
    have i240 : inB (iI ((12 * i + lc : Nat) : Int)) 240 = true := inN (by omega) (by decide)
    have k240 : (iI ((12 * i + lc : Nat) : Int)).toNatClampNeg = 12 * i + lc := clN (by omega)
    have e12 : (12 : Int32) * iI (i : Nat) + iI (lc : Nat) = iI ((12 * i + lc : Nat) : Int) := by rw [iI_lit 12, jI_mul, jI_add]
    obtain ⟨w, mw, bw⟩ := m_told (N := N) (τ := ov mb (uI M 8 0) ρ) (a0 := mb + 14) (a1 := mb + 15) (k := k) (q := q) t8 (by omega) (fun i hi => by rw [oA_16, inN (show i < 65536 by omega) (by decide), if_pos rfl, clN (by omega)]; rfl) (fun i hi => by rw [oA_17, inN (show i < 65536 by omega) (by decide), if_pos rfl, clN (by omega)]; rfl) hk (by omega) hN
    have ew : w = iI (dz : Nat) := bw.uni bd
    subst ew
    obtain ⟨M1, hM1⟩ : ∃ M1, M1 = uL (uI M 8 0) 27 (12 * i + lc) (iL (E : Nat)) := ⟨_, rfl⟩
    have t5'' : M1.1 20 = iI (nt : Nat) := by rw [hM1]; exact t5
    obtain ⟨w', mw', bw'⟩ := m_told (N := N) (τ := ov mb M1 ρ) (a0 := mb + 12) (a1 := mb + 13) (k := k) (q := d) t7 (by omega) (fun i hi => by rw [oA_14, inN (show i < 65536 by omega) (by decide), if_pos rfl, clN (by omega), hM1]; rfl) (fun i hi => by rw [oA_15, inN (show i < 65536 by omega) (by decide), if_pos rfl, clN (by omega), hM1]; rfl) hk (by omega) hN
    have ew' : w' = iI (tz : Nat) := bw'.uni bt
    subst ew'
    have g5' : M1.2.1 22 i = iI (d : Nat) := by rw [hM1]; exact g5
    obtain ⟨M2, hM2⟩ : ∃ M2, M2 = uA M1 28 (12 * i + lc) (iI (tz : Nat)) := ⟨_, rfl⟩
    have g9'' : M2.2.1 24 i = iI (lc : Nat) := by rw [hM2, uA_v, if_neg (by omega), hM1]; exact g9
    have e3 : M' = uA M2 24 i (iI ((lc + 1 : Nat) : Int)) := by rw [hM', hM2, hM1]
    have g9f : M'.2.1 24 i = iI ((lc + 1 : Nat) : Int) := by rw [hM', uA_v, if_pos ⟨rfl, rfl⟩]
    rw [mrun, if_pos hbk, if_neg (fun w => hlc (l12.mp w))]
    unfold b_X12_line_78 f_X12_taxAt
    rw [ov_isO, Option.bind_some, ff0, bb2, if_pos rfl, oR_24, Option.bind_some, oA_24, i20, if_pos rfl, k20, Option.bind_some, g9', e12]
    dsimp only [lt_]
    rw [oR_27, Option.bind_some, oR_16, Option.bind_some, oR_17, Option.bind_some, oI_21, Option.bind_some, t6', mw, Option.bind_some, eE, oS_27, i240, if_pos rfl, k240, Option.bind_some, ← hM1, oR_28, Option.bind_some, oR_22, Option.bind_some, oA_22, i20, if_pos rfl, k20, Option.bind_some, g5', ov_isO, Option.bind_some, oR_14, Option.bind_some, oR_15, Option.bind_some, oI_20, Option.bind_some, t5'', mw', Option.bind_some, Option.bind_some, oS_28, i240, if_pos rfl, k240, Option.bind_some, ← hM2, oR_24, Option.bind_some, oA_24, i20, if_pos rfl, k20, Option.bind_some, g9'', oS_24, i20, if_pos rfl, k20, Option.bind_some, jI_s, ← e3, oR_24, Option.bind_some, oA_24, i20, if_pos rfl, k20, Option.bind_some, g9f, jI_p]
  · rw [hM']; exact u8_v (M := M) (v := 0)
  · have h8 := hR.sd (Sd.u8 (v := 0))
    obtain ⟨z1, z2, z3, z4, z5, z6, z7, z8, z9⟩ := (h8.up).vk (fun p u s h => hC.vcls (K' := K') h)
    refine ⟨?_, ?_, ?_, ?_, ?_, ⟨n1, ?_, ?_, ?_, ?_⟩, ?_, ?_, ?_⟩
    · subst hK' hM'; exact z1
    · subst hK' hM'; exact z2
    · subst hK' hM'; exact z3
    · subst hK' hM'; exact z4
    · subst hK' hM'; exact z5
    · subst hK'; exact n2
    · subst hM'; exact n3
    · intro i' h1 h2
      rw [hM', uA_v, if_neg (by omega)]
      exact n4 i' h1 h2
    · intro i' hi'
      obtain ⟨f0, d', cur', lc', by', f1, f2, f3, f4, f5, f6, f7, f8, f9, f10, f11, f12⟩ := n5 i' hi'
      have kk : ∀ q, q ≠ 2 → K'.1 29 i' q = K.1 29 i' q := fun q hq => by
        rw [hK', kI_v, if_neg (by omega), kI_v, if_neg (by omega)]; rfl
      have mm : ∀ g, g ≠ 24 → g ≠ 28 → M'.2.1 g = M.2.1 g := fun g h1 h2 => by
        funext z
        rw [hM', uA_v, if_neg (by omega), uA_v, if_neg (by omega)]; rfl
      refine ⟨by rw [hK']; exact f0, ?_⟩
      have oldj : ∀ j lc0, lc0 ≤ 12 → j < lc0 → (i' = i → j ≠ lc) → (∃ e t : Nat, e ≤ 9999999 * 999999 * 1000 ∧ t ≤ 9999 ∧ K.2.1 30 i' j = iL (e : Nat) ∧ M.2.2 27 (12 * i' + j) = iL (e : Nat) ∧ K.1 31 i' j = iI (t : Nat) ∧ M.2.1 28 (12 * i' + j) = iI (t : Nat)) → ∃ e t : Nat, e ≤ 9999999 * 999999 * 1000 ∧ t ≤ 9999 ∧ K'.2.1 30 i' j = iL (e : Nat) ∧ M'.2.2 27 (12 * i' + j) = iL (e : Nat) ∧ K'.1 31 i' j = iI (t : Nat) ∧ M'.2.1 28 (12 * i' + j) = iI (t : Nat) := by
        intro j lc0 h1 h2 h3 ⟨e, t, e1, e2, e3, e4, e5, e6⟩
        refine ⟨e, t, e1, e2, ?_, ?_, ?_, ?_⟩
        · rw [hK', kI_o, kI_o, kL_v, if_neg (fun w => h3 w.2.1 w.2.2)]; exact e3
        · rw [hM', uA_l, uA_l, uL_v, if_neg (by omega)]; exact e4
        · rw [hK', kI_v, if_neg (by omega), kI_v, if_neg (fun w => h3 w.2.1 w.2.2)]; exact e5
        · rw [hM', uA_v, if_neg (by omega), uA_v, if_neg (by omega)]; exact e6
      by_cases e : i' = i
      · subst e
        refine ⟨d, cur, lc + 1, by_, g1, g2, by omega, by rw [kk 0 (by decide)]; exact g4, by rw [mm 22 (by decide) (by decide)]; exact g5, by rw [kk 1 (by decide)]; exact g6, by rw [mm 23 (by decide) (by decide)]; exact g7, by rw [hK', kI_v, if_pos ⟨rfl, rfl, rfl⟩], by rw [hM', uA_v, if_pos ⟨rfl, rfl⟩], by rw [kk 3 (by decide)]; exact g10, by rw [mm 25 (by decide) (by decide)]; exact g11, fun j hj => ?_⟩
        by_cases ej : j = lc
        · subst ej
          refine ⟨E, tz, Ele, tz1, ?_, ?_, ?_, ?_⟩
          · rw [hK', kI_o, kI_o, kL_v, if_pos ⟨rfl, rfl, rfl⟩]
          · rw [hM', uA_l, uA_l, uL_v, if_pos ⟨rfl, rfl⟩]
          · rw [hK', kI_v, if_neg (by omega), kI_v, if_pos ⟨rfl, rfl, rfl⟩]
          · rw [hM', uA_v, if_neg (by omega), uA_v, if_pos ⟨rfl, rfl⟩]
        · exact oldj j lc g3 (by omega) (fun _ => ej) (g12 j (by omega))
      · refine ⟨d', cur', lc', by', f1, f2, f3, by rw [kk 0 (by decide)]; exact f4, by rw [mm 22 (by decide) (by decide)]; exact f5, by rw [kk 1 (by decide)]; exact f6, by rw [mm 23 (by decide) (by decide)]; exact f7, ?_, by rw [hM', uA_v, if_neg (fun w => e w.2), uA_v, if_neg (by omega)]; exact f9, by rw [kk 3 (by decide)]; exact f10, by rw [mm 25 (by decide) (by decide)]; exact f11, fun j hj => oldj j lc' f3 hj (fun w => absurd w e) (f12 j hj)⟩
        rw [hK', kI_v, if_neg (fun w => e w.2.1), kI_v, if_neg (by omega)]
        exact f8
    · subst hK' hM'; exact z7
    · subst hK' hM'; exact z8
    · subst hK' hM'; exact z9
