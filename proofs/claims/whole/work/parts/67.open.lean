/-! ===== open ===== -/
theorem q_open {xb mb ob : Nat} (v1 v2 v3 : Int32) (hv : v3 = 0 ∨ v3 = 1) : Ag (I0 xb mb ob) mb ob (fun x : Int32 => x.toInt64) (fun σ sz => f_L_open σ sz xb v1 v2 v3 ob) (fun σ => f_X12_open σ mb v1 v2 v3) := by
  refine ag_in (fun n σ sz ni A W K M hn hA ho hC hR hF => ?_)
  subst hA
  have bb2 : ∀ {α β γ : Type} (x : α) (y : β) (f : α → β → Option γ), b2 (some (x, y)) f = f x y := fun _ _ _ => rfl
  have hz : okZ v3 = true := by rcases hv with h | h <;> rw [h] <;> decide
  have hnz : nZ v3 = v3 := by rcases hv with h | h <;> rw [h] <;> decide
  have no : ∀ (ρ : Sto) (k : Nat) (v1 v2 v3 : Int32), k ≠ 0 → k < 100 → b_X12_open_42 (ov mb M ρ) mb v1 v2 v3 (iI (k : Nat)) mb = some (0, ov mb (uI M 8 (iI (k : Nat))) ρ) := by
    intro ρ k v1 v2 v3 h1 h2
    unfold b_X12_open_42
    rw [ov_isO, Option.bind_some, m_fails h2, decide_eq_true (by omega)]
    rfl
  rcases cu_cases (v := v2) with ⟨c1, c2⟩ | ⟨cur, rfl, hc, c1, c2⟩
  · refine ag_no (k := 1) (y := sz) rfl ho hC hR ?_ (by decide) (by decide) (fun ρ => ⟨uI M 8 1, 0, ?_, Sd.u8, u8_v⟩)
    · simp only [f_L_open, f_X11_open, hC.xo, Option.bind_some, c1, bs, b3]
      rfl
    · unfold f_X12_open
      rw [c2, Option.bind_some, if_pos rfl]
      exact no ρ 1 _ _ _ (by decide) (by decide)
  rcases ra_i (v := v1) 0 9999 (by decide) (by decide) (a' := 0) (b' := 9999) rfl rfl with ⟨d1, d2⟩ | ⟨d, rfl, -, hd, d1, d2⟩
  · refine ag_no (k := 2) (y := sz) rfl ho hC hR ?_ (by decide) (by decide) (fun ρ => ⟨uI M 8 2, 0, ?_, Sd.u8, u8_v⟩)
    · simp only [f_L_open, f_X11_open, hC.xo, Option.bind_some, c1, d1, bs, b3]
      rfl
    · unfold f_X12_open
      rw [c2, Option.bind_some, if_neg (by decide), d2, Option.bind_some, if_pos rfl]
      exact no ρ 2 _ _ _ (by decide) (by decide)
  have hR0 := hR
  obtain ⟨a1, a2, a3, a4, a5, ⟨n1, n2, n3, n4, n5⟩, a7, a8, ⟨c, ac, sh, S, hL, hle⟩⟩ := hR0
  have l20 : iI (ni : Nat) < 20 ↔ ni < 20 := by rw [iI_lit 20, jI_lt (by omega) (by omega)]
  have e20 : iI (ni : Nat) = 20 ↔ ni = 20 := by rw [iI_lit 20, jI_eq (by omega) (by omega)]
  have x7 : gI σ (A 0 0) 10 7 = some (iI (ni : Nat)) := by
    have := xI_0_7 (K := K) (σ := σ) hC.1
    rw [hC.eqk, n2] at this
    exact this
  have x6 : gR σ (A 0 0) 10 6 = some (A 8 0) := by
    have := xR_0_6 (K := K) (σ := σ) hC.1
    rw [hC.eqk] at this
    exact this
  by_cases hni : ni < 20
  case neg =>
    refine ag_no (k := 3) (y := sz) rfl ho hC hR ?_ (by decide) (by decide) (fun ρ => ⟨uI M 8 3, 0, ?_, Sd.u8, u8_v⟩)
    · simp only [f_L_open, f_X11_open, hC.xo, Option.bind_some, c1, d1, bs, b3, x7]
      rw [if_neg (fun w => hni (l20.mp w))]
      rfl
    · unfold f_X12_open
      rw [c2, Option.bind_some, if_neg (by decide), d2, Option.bind_some, if_neg (by decide), oI_29, Option.bind_some, n3, if_pos (e20.mpr (by omega))]
      exact no ρ 3 _ _ _ (by decide) (by decide)
  obtain ⟨τ, V, y1, y2, y3, y4, y5, y6⟩ := x_newInv (σ := σ) (sz := sz) (v1 := iI (d : Nat)) (v2 := iI (cur : Nat)) (v3 := v3) hz
  have cτ := hC.grow hF y2 y3 y4 y5 (fun a ha => y6 a (Or.inl ha))
  have vτ : VK σ τ := fun p u s hv => hv.of (y6 p (Or.inl (hv.lt hF)))
  obtain ⟨A', hA'⟩ : ∃ A', A' = gA A ni sz := ⟨_, rfl⟩
  obtain ⟨W', hW'⟩ : ∃ W', W' = gW W ni sz := ⟨_, rfl⟩
  obtain ⟨K1, hK1⟩ : ∃ K1, K1 = gKK K ni (iI (d : Nat)) (iI (cur : Nat)) v3 := ⟨_, rfl⟩
  rw [← hA', ← hW', ← hK1] at cτ
  have a00 : A' 0 0 = A 0 0 := by rw [hA']; exact if_neg (by omega)
  have a80 : A' 8 0 = A 8 0 := by rw [hA']; exact if_neg (by omega)
  have a29 : A' 29 ni = sz := by rw [hA']; exact if_pos ⟨rfl, by decide, by decide⟩
  have i20 : inB (iI (ni : Nat)) 20 = true := inN hni (by decide)
  have k20 : (iI (ni : Nat)).toNatClampNeg = ni := clN (by omega)
  obtain ⟨K', hK'⟩ : ∃ K', K' = kI (kR K1 8 ni (some sz)) 0 0 7 (iI ((ni + 1 : Nat) : Int)) := ⟨_, rfl⟩
  have key : f_X11_open σ sz (A 0 0) (iI (d : Nat)) (iI (cur : Nat)) v3 = some (.inr (iI (ni : Nat)), ovk A' W' K' τ, sz + 1 + 2) := by
    have o29 := xO_29 (K := K1) (σ := τ) cτ.1 (Nat.lt_succ_self ni)
    rw [a29] at o29
    have s8 := xS_8 (K := K1) (σ := τ) (i := iI (ni : Nat)) (p := sz) cτ.1 o29
    rw [cτ.eqk, i20, if_pos rfl, k20, a80] at s8
    have g7 := xI_0_7 (K := kR K1 8 ni (some sz)) (σ := τ) cτ.1
    have p7 := xP_0_7 (K := kR K1 8 ni (some sz)) (σ := τ) (v := iI ((ni + 1 : Nat) : Int)) cτ.1
    have g7' := xI_0_7 (K := K') (σ := τ) cτ.1
    have k7 : (kR K1 8 ni (some sz)).1 0 0 7 = iI (ni : Nat) := by
      rw [hK1]
      exact (if_neg (by omega)).trans ((if_neg (by omega)).trans n2)
    have k7' : K'.1 0 0 7 = iI ((ni + 1 : Nat) : Int) := by rw [hK', kI_v, if_pos ⟨rfl, rfl, rfl⟩]
    rw [k7, a00] at g7
    rw [← hK', a00] at p7
    rw [k7', a00] at g7'
    unfold f_X11_open
    rw [c1, Option.bind_some]
    dsimp only [bs]
    rw [d1, Option.bind_some]
    dsimp only
    rw [x7, Option.bind_some, if_pos (l20.mpr hni), x6, Option.bind_some, Option.bind_some]
    dsimp only [lt_]
    rw [y1]
    dsimp only [b3, Option.bind_some]
    rw [s8, Option.bind_some, g7, Option.bind_some, jI_s, p7, Option.bind_some, g7', Option.bind_some, jI_p]
  obtain ⟨M', hM'⟩ : ∃ M', M' = uI (uA (uA (uA (uI M 8 0) 22 ni (iI (d : Nat))) 23 ni (iI (cur : Nat))) 25 ni v3) 29 (iI ((ni + 1 : Nat) : Int)) := ⟨_, rfl⟩
  refine ag_ok (A := A') (v := (iI (ni : Nat)).toInt64) (y := sz + 1 + 2) a00 ho ?_ (cτ.cls (K' := K')) (fun ρ => ⟨M', iI (ni : Nat), ?_, ?_, rfl, ?_⟩)
  · simp only [f_L_open, hC.xo, Option.bind_some, key, b3, bs]
  · have n3' : (uI M 8 0).1 29 = iI (ni : Nat) := n3
    have f29 : M'.1 29 = iI ((ni + 1 : Nat) : Int) := by rw [hM', uI_v, if_pos rfl]
    unfold f_X12_open
    rw [c2, Option.bind_some, if_neg (by decide), d2, Option.bind_some, if_neg (by decide), oI_29, Option.bind_some, n3, if_neg (fun w => by have := e20.mp w; omega)]
    unfold b_X12_open_42
    rw [ov_isO, Option.bind_some, ff0, bb2, if_pos rfl]
    simp only [oR_22, oR_23, oR_25, oI_29, oS_22, oS_23, oS_25, oP_29, Option.bind_some, uA_o, n3', i20, k20, if_true, hnz, jI_s, ← hM', f29, jI_p]
  · rw [hM']; exact u8_v (M := M) (v := 0)
  · obtain ⟨a, b, c', d', e, -, g, i, -⟩ := (hR.up).vk (vτ.tr (fun p u s h => cτ.vcls (K' := K') h))
    have t1 : ∀ g, g ≠ 0 → g ≠ 29 → g ≠ 31 → K'.1 g = K.1 g := fun g h1 h2 h3 => by
      funext j k
      rw [hK', kI_v, if_neg (by omega), kR_o, hK1]
      exact (if_neg (by omega)).trans (if_neg (by omega))
    have t2 : ∀ g, g ≠ 30 → K'.2.1 g = K.2.1 g := fun g h1 => by
      funext j k
      rw [hK', kI_o, kR_l, hK1]
      exact if_neg (by omega)
    have t3 : ∀ g, g ≠ 8 → K'.2.2.1 g = K.2.2.1 g := fun g h1 => by
      funext k
      rw [hK', kI_o, kR_v, if_neg (by omega), hK1]
      rfl
    have t4 : K'.2.2.2 = K.2.2.2 := by rw [hK', kI_o, kR_n, hK1]; rfl
    have s1 : ∀ k, k ≠ 8 → k ≠ 29 → M'.1 k = M.1 k := fun k h1 h2 => by
      rw [hM', uI_v, if_neg h2, uA_o, uA_o, uA_o, uI_v, if_neg h1]
    have s2 : ∀ k, k ≠ 22 → k ≠ 23 → k ≠ 25 → M'.2.1 k = M.2.1 k := fun k h1 h2 h3 => by
      funext j
      rw [hM', uI_o, uA_v, if_neg (by omega), uA_v, if_neg (by omega), uA_v, if_neg (by omega)]; rfl
    have s3 : M'.2.2 = M.2.2 := by rw [hM']; rfl
    refine ⟨?_, ?_, ?_, ?_, ?_, ⟨by omega, ?_, ?_, ?_, ?_⟩, ?_, ?_, ?_⟩
    · unfold RV MV at *
      rw [s2 5 (by decide) (by decide) (by decide), s2 4 (by decide) (by decide) (by decide), s3, t3 1 (by decide)]
      exact a
    · unfold RT at *
      rw [s1 7 (by decide) (by decide), s2 6 (by decide) (by decide) (by decide), t1 2 (by decide) (by decide) (by decide), t1 3 (by decide) (by decide) (by decide)]
      exact b
    · unfold RC at *
      rw [s2 9 (by decide) (by decide) (by decide), s2 10 (by decide) (by decide) (by decide), s2 11 (by decide) (by decide) (by decide), t1 25 (by decide) (by decide) (by decide)]
      exact c'
    · unfold RR at *
      rw [s2 13 (by decide) (by decide) (by decide), s3, t3 5 (by decide)]
      exact d'
    · unfold RS StT at *
      rw [s1 20 (by decide) (by decide), s1 21 (by decide) (by decide), s2 14 (by decide) (by decide) (by decide), s2 15 (by decide) (by decide) (by decide), s2 16 (by decide) (by decide) (by decide), s2 17 (by decide) (by decide) (by decide), s2 18 (by decide) (by decide) (by decide), s2 19 (by decide) (by decide) (by decide), t1 26 (by decide) (by decide) (by decide), t1 27 (by decide) (by decide) (by decide), t1 28 (by decide) (by decide) (by decide), t4]
      exact e
    · rw [hK', kI_v, if_pos ⟨rfl, rfl, rfl⟩]
    · rw [hM', uI_v, if_pos rfl]
    · intro i' h1 h2
      rw [s2 24 (by decide) (by decide) (by decide)]
      exact n4 i' (by omega) h2
    · intro i' hi'
      by_cases e' : i' = ni
      · subst e'
        have q0 : ∀ q, K'.1 29 i' q = if q = 0 then iI (d : Nat) else if q = 1 then iI (cur : Nat) else if q = 3 then v3 else 0 := fun q => by
          rw [hK', kI_v, if_neg (by omega), kR_o, hK1]
          exact if_pos ⟨rfl, rfl⟩
        refine ⟨?_, d, cur, 0, decide (v3 = 1), hd, hc, by decide, q0 0, ?_, q0 1, ?_, q0 2, ?_, ?_, ?_, fun j hj => absurd hj (by omega)⟩
        · rw [hK', kI_o, kR_v, if_pos ⟨rfl, rfl⟩, a29]
        · rw [hM', uI_o, uA_v, if_neg (by omega), uA_v, if_neg (by omega), uA_v, if_pos ⟨rfl, rfl⟩]
        · rw [hM', uI_o, uA_v, if_neg (by omega), uA_v, if_pos ⟨rfl, rfl⟩]
        · rw [s2 24 (by decide) (by decide) (by decide)]; exact n4 i' (Nat.le_refl _) (by omega)
        · rw [q0 3]; rcases hv with h | h <;> rw [h] <;> rfl
        · rw [hM', uI_o, uA_v, if_pos ⟨rfl, rfl⟩]; rcases hv with h | h <;> rw [h] <;> rfl
      · obtain ⟨f0, d0, cur0, lc0, by0, f1, f2, f3, f4, f5, f6, f7, f8, f9, f10, f11, f12⟩ := n5 i' (by omega)
        have q29 : K'.1 29 i' = K.1 29 i' := by
          funext q
          rw [hK', kI_v, if_neg (by omega), kR_o, hK1]
          exact (if_neg (by omega)).trans (if_neg (by omega))
        have q31 : K'.1 31 i' = K.1 31 i' := by
          funext q
          rw [hK', kI_v, if_neg (by omega), kR_o, hK1]
          exact (if_neg (by omega)).trans (if_neg (by omega))
        have q30 : K'.2.1 30 i' = K.2.1 30 i' := by
          funext q
          rw [hK', kI_o, kR_l, hK1]
          exact if_neg (by omega)
        have q8 : K'.2.2.1 8 i' = K.2.2.1 8 i' := by
          rw [hK', kI_o, kR_v, if_neg (by omega), hK1]
          rfl
        have m22 : M'.2.1 22 i' = M.2.1 22 i' := by rw [hM', uI_o, uA_v, if_neg (by omega), uA_v, if_neg (by omega), uA_v, if_neg (by omega)]; rfl
        have m23 : M'.2.1 23 i' = M.2.1 23 i' := by rw [hM', uI_o, uA_v, if_neg (by omega), uA_v, if_neg (by omega), uA_v, if_neg (by omega)]; rfl
        have m25 : M'.2.1 25 i' = M.2.1 25 i' := by rw [hM', uI_o, uA_v, if_neg (by omega), uA_v, if_neg (by omega), uA_v, if_neg (by omega)]; rfl
        have aold : A' 29 i' = A 29 i' := by rw [hA']; exact if_neg (by omega)
        rw [q29, q31, q30, q8, m22, m23, m25, aold, s2 24 (by decide) (by decide) (by decide), s2 28 (by decide) (by decide) (by decide), s3]
        exact ⟨f0, d0, cur0, lc0, by0, f1, f2, f3, f4, f5, f6, f7, f8, f9, f10, f11, f12⟩
    · unfold RW at *
      rw [s1 33 (by decide) (by decide), s1 34 (by decide) (by decide), s2 30 (by decide) (by decide) (by decide), s3, t1 9 (by decide) (by decide) (by decide), t1 10 (by decide) (by decide) (by decide), t2 11 (by decide), t2 9 (by decide)]
      exact g
    · have obq : ∀ i, owedB K' i = owedB K i := by
        intro i
        cases i with
        | zero => unfold owedB; rw [t2 13 (by decide)]
        | succ i => unfold owedB; rw [t2 16 (by decide)]
      unfold RLo at *
      simp only [obq]
      rw [s1 41 (by decide) (by decide), s3, t1 13 (by decide) (by decide) (by decide), t2 14 (by decide), t2 15 (by decide), t2 16 (by decide)]
      exact i
    · refine ⟨c, ac, sh, S, ?_, ?_⟩
      · unfold LE at *
        rw [s1 46 (by decide) (by decide), s1 47 (by decide) (by decide), s1 51 (by decide) (by decide), s2 26 (by decide) (by decide) (by decide), s2 42 (by decide) (by decide) (by decide), s2 43 (by decide) (by decide) (by decide), s2 44 (by decide) (by decide) (by decide), s2 48 (by decide) (by decide) (by decide), s2 49 (by decide) (by decide) (by decide), s2 50 (by decide) (by decide) (by decide), s3, t1 17 (by decide) (by decide) (by decide), t1 18 (by decide) (by decide) (by decide), t1 19 (by decide) (by decide) (by decide), t1 21 (by decide) (by decide) (by decide), t1 22 (by decide) (by decide) (by decide), t1 23 (by decide) (by decide) (by decide), t1 24 (by decide) (by decide) (by decide), t2 20 (by decide)]
        obtain ⟨l1, l2, l3, l4, l5, l6, l7, l8⟩ := hL
        refine ⟨l1, l2, l3, l4, l5, l6, fun i hi => ?_, l8⟩
        obtain ⟨⟨dd, bb, u1, u2, u3, u4⟩, u5⟩ := l7 i hi
        exact ⟨⟨dd, bb, u1, u2, by omega, u4⟩, u5⟩
      · rw [s2 50 (by decide) (by decide) (by decide)]; exact hle
