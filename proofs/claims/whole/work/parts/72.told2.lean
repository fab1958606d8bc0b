/-! ===== setTax, setDiscount ===== -/
theorem Rel.told {n ni j : Nat} {A A' : AM} {K K' : KS} {M M' : MS} {σ : Sto} (h : Rel n ni A K M σ) (ht : TK j A A' K K') (s1 : ∀ k, k ≠ 2 → k ≠ 8 → k ≠ 20 → k ≠ 21 → M'.1 k = M.1 k) (s2 : ∀ k, k < 14 ∨ 19 < k → M'.2.1 k = M.2.1 k) (s3 : M'.2.2 = M.2.2) (hL : RS n K' M') : Rel n ni A' K' M' σ := by
  obtain ⟨a, b, c, d, e, f, g, i, jj⟩ := h
  obtain ⟨-, x2, -, x4, t2, t3⟩ := ht
  have t1 : ∀ g, g ≠ 26 → g ≠ 27 → g ≠ 28 → K'.1 g = K.1 g := fun g h1 h2 h3 => by
    funext j'
    exact (x4 g j' (by omega)).1
  refine ⟨?_, ?_, ?_, ?_, hL, ?_, ?_, ?_, ?_⟩
  · unfold RV MV at *
    rw [s2 5 (by decide), s2 4 (by decide), s3, t3]
    exact a
  · unfold RT at *
    rw [s1 7 (by decide) (by decide) (by decide) (by decide), s2 6 (by decide), t1 2 (by decide) (by decide) (by decide), t1 3 (by decide) (by decide) (by decide)]
    exact b
  · unfold RC at *
    rw [s2 9 (by decide), s2 10 (by decide), s2 11 (by decide), t1 25 (by decide) (by decide) (by decide)]
    exact c
  · unfold RR at *
    rw [s2 13 (by decide), s3, t3]
    exact d
  · unfold RN at *
    rw [s1 29 (by decide) (by decide) (by decide) (by decide), s2 22 (by decide), s2 23 (by decide), s2 24 (by decide), s2 25 (by decide), s2 28 (by decide), s3, t1 0 (by decide) (by decide) (by decide), t1 29 (by decide) (by decide) (by decide), t1 31 (by decide) (by decide) (by decide), t2, t3, x2]
    exact f
  · unfold RW at *
    rw [s1 33 (by decide) (by decide) (by decide) (by decide), s1 34 (by decide) (by decide) (by decide) (by decide), s2 30 (by decide), s3, t1 9 (by decide) (by decide) (by decide), t1 10 (by decide) (by decide) (by decide), t2]
    exact g
  · have ho : ∀ c, owedB K' c = owedB K c := fun c => by
      cases c with
      | zero => unfold owedB; rw [t2]
      | succ c => unfold owedB; rw [t2]
    unfold RLo at *
    simp only [ho]
    rw [s1 41 (by decide) (by decide) (by decide) (by decide), t1 13 (by decide) (by decide) (by decide), s3, t2]
    exact i
  · unfold RE LE at *
    rw [s1 46 (by decide) (by decide) (by decide) (by decide), s1 47 (by decide) (by decide) (by decide) (by decide), s1 51 (by decide) (by decide) (by decide) (by decide), s2 26 (by decide), s2 42 (by decide), s2 43 (by decide), s2 44 (by decide), s2 48 (by decide), s2 49 (by decide), s2 50 (by decide), s3, t1 17 (by decide) (by decide) (by decide), t1 18 (by decide) (by decide) (by decide), t1 19 (by decide) (by decide) (by decide), t1 21 (by decide) (by decide) (by decide), t1 22 (by decide) (by decide) (by decide), t1 23 (by decide) (by decide) (by decide), t1 24 (by decide) (by decide) (by decide), t2]
    exact jj
theorem p_setTax {xb mb ob N : Nat} (hN : 1000 ≤ N) : A_setTax (I0 xb mb ob) N xb mb ob := by
  intro v1 v2 v3
  refine ag_in (fun n σ sz ni A W K M hn hA ho hC hR hF => ?_)
  subst hA
  have bb2 : ∀ {α β γ : Type} (x : α) (y : β) (f : α → β → Option γ), b2 (some (x, y)) f = f x y := fun _ _ _ => rfl
  have no : ∀ (ρ : Sto) (k : Nat) (v1 v2 v3 : Int32), k ≠ 0 → k < 100 → b_X12_setTax_41 N (ov mb M ρ) mb v1 v2 v3 (iI (k : Nat)) mb = some (0, ov mb (uI M 8 (iI (k : Nat))) ρ) := by
    intro ρ k v1 v2 v3 h1 h2
    unfold b_X12_setTax_41
    rw [ov_isO, Option.bind_some, m_fails h2, decide_eq_true (by omega)]
    rfl
  rcases ki_cases (v := v1) with ⟨k1, k2⟩ | ⟨k, rfl, hk, k1, k2⟩
  · refine ag_no (k := 1) (y := sz) rfl ho hC hR ?_ (by decide) (by decide) (fun ρ => ⟨uI M 8 1, 0, ?_, Sd.u8, u8_v⟩)
    · simp only [f_L_setTax, f_X11_setTax, hC.xo, Option.bind_some, k1, bs, b3]
      rfl
    · unfold f_X12_setTax
      rw [k2, Option.bind_some, if_pos rfl]
      exact no ρ 1 _ _ _ (by decide) (by decide)
  rcases ra_i (v := v2) 0 9999 (by decide) (by decide) (a' := 0) (b' := 9999) rfl rfl with ⟨d1, d2⟩ | ⟨d, rfl, -, hd, d1, d2⟩
  · refine ag_no (k := 2) (y := sz) rfl ho hC hR ?_ (by decide) (by decide) (fun ρ => ⟨uI M 8 2, 0, ?_, Sd.u8, u8_v⟩)
    · simp only [f_L_setTax, f_X11_setTax, hC.xo, Option.bind_some, k1, d1, bs, b3]
      rfl
    · unfold f_X12_setTax
      rw [k2, Option.bind_some, if_neg (by decide), d2, Option.bind_some, if_pos rfl]
      exact no ρ 2 _ _ _ (by decide) (by decide)
  rcases ra_i (v := v3) 0 9999 (by decide) (by decide) (a' := 0) (b' := 9999) rfl rfl with ⟨e1, e2⟩ | ⟨z, rfl, -, hz, e1, e2⟩
  · refine ag_no (k := 2) (y := sz) rfl ho hC hR ?_ (by decide) (by decide) (fun ρ => ⟨uI M 8 2, 0, ?_, Sd.u8, u8_v⟩)
    · simp only [f_L_setTax, f_X11_setTax, hC.xo, Option.bind_some, k1, d1, e1, bs, b3]
      rfl
    · unfold f_X12_setTax
      rw [k2, Option.bind_some, if_neg (by decide), d2, Option.bind_some, if_neg (by decide), e2, Option.bind_some, if_pos rfl]
      exact no ρ 2 _ _ _ (by decide) (by decide)
  obtain ⟨T, D, ct, cd, nt, nd_, t1, t2, t3, t4, t5, t6, t7, t8, t9, t10⟩ := hR.2.2.2.2.1
  obtain ⟨u1, u2, u3⟩ := t1 k hk
  obtain ⟨A', W', K', τ, y, x1, x2, x3, x4, x5⟩ := x_tell (v := iI (z : Nat)) (N := N) (p := d) hC hF (show 2 * k < 12 by omega) u2 (by omega) (by omega) hN
  obtain ⟨pos, hP⟩ := Pos.ex (M.2.1 14) (iI ((1000000 * k + d : Nat) : Int)) nt
  obtain ⟨m1, m2⟩ := t7.up (v := iI (z : Nat)) (many' := M.2.1 18) (by omega) hk (show d < 1000000 by omega) hP
  have mt := fun ρ => m_tellsT (σ := ρ) (M := uI M 8 0) (mb := mb) (v := iI (z : Nat)) (N := N) hk (show d < 1000000 by omega) (show nt ≤ 512 by omega) hP hN
  obtain ⟨M1, hM1⟩ : ∃ M1, M1 = uI (uA (uA (uA (uI M 8 0) 14 pos (iI ((1000000 * k + d : Nat) : Int))) 15 pos (iI (z : Nat))) 18 k ((uI M 8 0).2.1 18 k + if pos = nt then 1 else 0)) 20 (iI ((if pos = nt then nt + 1 else nt : Nat) : Int)) := ⟨_, rfl⟩
  have key : f_X11_setTax N σ sz (A 0 0) (iI (k : Nat)) (iI (d : Nat)) (iI (z : Nat)) = some (.inr (iI ((if T k d = none then ct k + 1 else ct k : Nat) : Int)), τ, y) := by
    have g4 := xR_0_4 (K := K) (σ := σ) hC.1
    have q6 := xA_6 (K := K) (σ := σ) (i := iI (k : Nat)) hC.1
    have o6 := xO_26 (K := K) (σ := σ) hC.1 (show 2 * k < 12 by omega)
    rw [hC.eqk] at g4 q6 o6
    unfold f_X11_setTax
    rw [k1, Option.bind_some]
    dsimp only [bs]
    rw [d1, Option.bind_some]
    dsimp only
    rw [e1, Option.bind_some]
    dsimp only
    rw [g4, Option.bind_some, q6, inN hk (by decide), if_pos rfl, clN (by omega), Option.bind_some, show rk A (K.2.2.1 6) 6 k = some (A 26 (2 * k)) from if_pos hk, Option.bind_some, o6, Option.bind_some, x1]
    rfl
  have f18 : ∀ k', M1.2.1 18 k' = iI ((if k' = k then (if T k d = none then ct k + 1 else ct k) else ct k' : Nat) : Int) ∨ 6 ≤ k' := by
    intro k'
    by_cases hk' : k' < 6
    · refine Or.inl ?_
      rw [hM1, uI_o, uA_v]
      by_cases e : k' = k
      · rw [if_pos ⟨rfl, e⟩, if_pos e]
        show M.2.1 18 k + _ = _
        rw [u3]
        by_cases h : pos = nt
        · rw [if_pos h, if_pos (m2.mpr h), jI_s]
        · rw [if_neg h, if_neg (fun w => h (m2.mp w)), iI_lit 0, jI_add, Nat.add_zero]
      · rw [if_neg (fun w => e w.2), if_neg e, uA_v, if_neg (by omega), uA_v, if_neg (by omega)]
        exact (t1 k' hk').2.2
    · exact Or.inr (by omega)
  refine ag_ok (A := A') (v := (iI ((if T k d = none then ct k + 1 else ct k : Nat) : Int)).toInt64) (y := y) x4.1 ho ?_ x2 (fun ρ => ⟨M1, iI ((if T k d = none then ct k + 1 else ct k : Nat) : Int), ?_, ?_, rfl, ?_⟩)
  · simp only [f_L_setTax, hC.xo, Option.bind_some, key, b3, bs]
  · have i8 : (uI M 8 0).1 20 = iI (nt : Nat) := t5
    unfold f_X12_setTax
    rw [k2, Option.bind_some, if_neg (by decide), d2, Option.bind_some, if_neg (by decide), e2, Option.bind_some, if_neg (by decide)]
    unfold b_X12_setTax_41
    rw [ov_isO, Option.bind_some, ff0, bb2, if_pos rfl, oR_14, Option.bind_some, oR_15, Option.bind_some, oR_18, Option.bind_some, oI_20, Option.bind_some, i8, mt ρ, bb2, oP_20, Option.bind_some, ← hM1, oR_18, Option.bind_some, oA_18, inN hk (by decide), if_pos rfl, clN (by omega), Option.bind_some]
    rcases f18 k with h | h
    · rw [h, if_pos rfl]
    · omega
  · rw [hM1, uI_v, if_neg (by decide)]; exact u8_v (M := M) (v := 0)
  · have s1 : ∀ q, q ≠ 8 → q ≠ 20 → M1.1 q = M.1 q := fun q h1 h2 => by
      rw [hM1, uI_v, if_neg h2, uA_o, uA_o, uA_o, uI_v, if_neg h1]
    have s2 : ∀ q, q ≠ 14 → q ≠ 15 → q ≠ 18 → M1.2.1 q = M.2.1 q := fun q h1 h2 h3 => by
      funext i
      rw [hM1, uI_o, uA_v, if_neg (by omega), uA_v, if_neg (by omega), uA_v, if_neg (by omega)]; rfl
    have f14 : M1.2.1 14 = fun i => if i = pos then iI ((1000000 * k + d : Nat) : Int) else M.2.1 14 i := by
      funext i
      rw [hM1, uI_o, uA_v, if_neg (by omega), uA_v, if_neg (by omega), uA_v]
      by_cases e : i = pos
      · rw [if_pos ⟨rfl, e⟩, if_pos e]
      · rw [if_neg (fun w => e w.2), if_neg e]; rfl
    have f15 : M1.2.1 15 = fun i => if i = pos then iI (z : Nat) else M.2.1 15 i := by
      funext i
      rw [hM1, uI_o, uA_v, if_neg (by omega), uA_v]
      by_cases e : i = pos
      · rw [if_pos ⟨rfl, e⟩, if_pos e]
      · rw [if_neg (fun w => e w.2), if_neg e, uA_v, if_neg (by omega)]; rfl
    obtain ⟨y1, y2, y3, y4, y5, y6⟩ := x4
    have oth : ∀ (T1 T2 : Nat → Nat → Option Int32) (j' k' c' : Nat), j' ≠ 2 * k → T2 k' = T1 k' → StT T1 K j' k' c' → StT T2 K' j' k' c' := fun T1 T2 j' k' c' h1 h2 h3 => h3.oth (y4 26 j' (by omega)).1 (y4 27 j' (by omega)).1 (y4 28 j' (by omega)).1 (y4 27 j' (by omega)).2 (y4 28 j' (by omega)).2 h2
    have up' : ∀ k', k' ≠ k → upT T k d (iI (z : Nat)) k' = T k' := fun k' h => by
      funext p
      exact upT_n (fun w => h w.1)
    have val : ∀ k' p' v', upT T k d (iI (z : Nat)) k' p' = some v' → ∃ z' : Nat, z' ≤ 9999 ∧ v' = iI (z' : Nat) := fun k' p' v' h => by
      by_cases e : k' = k ∧ p' = d
      · rw [e.1, e.2, upT_s] at h
        exact ⟨z, hz, (Option.some.inj h).symm⟩
      · rw [upT_n e] at h
        exact t9 k' p' v' h
    have main : ∀ k', k' < 6 → (if k' = k then (if T k d = none then ct k + 1 else ct k) else ct k') ≤ n + 1 ∧ StT (upT T k d (iI (z : Nat))) K' (2 * k') k' (if k' = k then (if T k d = none then ct k + 1 else ct k) else ct k') ∧ M1.2.1 18 k' = iI ((if k' = k then (if T k d = none then ct k + 1 else ct k) else ct k' : Nat) : Int) := by
      intro k' hk'
      refine ⟨?_, ?_, ?_⟩
      · by_cases e : k' = k
        · rw [if_pos e]; split <;> omega
        · rw [if_neg e]; have := (t1 k' hk').1; omega
      · by_cases e : k' = k
        · rw [if_pos e, e]; exact x5
        · rw [if_neg e]
          exact oth _ _ _ _ _ (by omega) (up' k' e) (t1 k' hk').2.1
      · rcases f18 k' with h | h
        · exact h
        · omega
    have nle : (if pos = nt then nt + 1 else nt) ≤ n + 1 := by split <;> omega
    have f20 : M1.1 20 = iI ((if pos = nt then nt + 1 else nt : Nat) : Int) := by rw [hM1, uI_v, if_pos rfl]
    have hRS : RS (n + 1) K' M1 := by
      refine ⟨upT T k d (iI (z : Nat)), D, fun k' => if k' = k then (if T k d = none then ct k + 1 else ct k) else ct k', cd, if pos = nt then nt + 1 else nt, nd_, main, fun k' hk' => ⟨by have := (t2 k' hk').1; omega, oth _ _ _ _ _ (by omega) rfl (t2 k' hk').2.1, ?_⟩, nle, by omega, f20, ?_, ?_, ?_, val, t10⟩
      · rw [s2 19 (by decide) (by decide) (by decide)]; exact (t2 k' hk').2.2
      · rw [s1 21 (by decide) (by decide)]; exact t6
      · rw [f14, f15]; exact m1
      · rw [s2 16 (by decide) (by decide) (by decide), s2 17 (by decide) (by decide) (by decide)]; exact t8
    refine Rel.told (j := 2 * k) ((hR.up).vk x3) ⟨y1, y2, y3, y4, y5, y6⟩ (fun q h1 h2 h3 h4 => s1 q h2 (by omega)) (fun q h => s2 q (by omega) (by omega) (by omega)) (by rw [hM1]; rfl) hRS
theorem p_setDiscount {xb mb ob N : Nat} (hN : 1000 ≤ N) : A_setDiscount (I0 xb mb ob) N xb mb ob := by
  intro v1 v2 v3
  refine ag_in (fun n σ sz ni A W K M hn hA ho hC hR hF => ?_)
  subst hA
  have bb2 : ∀ {α β γ : Type} (x : α) (y : β) (f : α → β → Option γ), b2 (some (x, y)) f = f x y := fun _ _ _ => rfl
  have no : ∀ (ρ : Sto) (k : Nat) (v1 v2 v3 : Int32), k ≠ 0 → k < 100 → b_X12_setDiscount_41 N (ov mb M ρ) mb v1 v2 v3 (iI (k : Nat)) mb = some (0, ov mb (uI M 8 (iI (k : Nat))) ρ) := by
    intro ρ k v1 v2 v3 h1 h2
    unfold b_X12_setDiscount_41
    rw [ov_isO, Option.bind_some, m_fails h2, decide_eq_true (by omega)]
    rfl
  rcases ki_cases (v := v1) with ⟨k1, k2⟩ | ⟨k, rfl, hk, k1, k2⟩
  · refine ag_no (k := 1) (y := sz) rfl ho hC hR ?_ (by decide) (by decide) (fun ρ => ⟨uI M 8 1, 0, ?_, Sd.u8, u8_v⟩)
    · simp only [f_L_setDiscount, f_X11_setDiscount, hC.xo, Option.bind_some, k1, bs, b3]
      rfl
    · unfold f_X12_setDiscount
      rw [k2, Option.bind_some, if_pos rfl]
      exact no ρ 1 _ _ _ (by decide) (by decide)
  rcases ra_i (v := v2) 1 999999 (by decide) (by decide) (a' := 1) (b' := 999999) rfl rfl with ⟨d1, d2⟩ | ⟨d, rfl, -, hd, d1, d2⟩
  · refine ag_no (k := 2) (y := sz) rfl ho hC hR ?_ (by decide) (by decide) (fun ρ => ⟨uI M 8 2, 0, ?_, Sd.u8, u8_v⟩)
    · simp only [f_L_setDiscount, f_X11_setDiscount, hC.xo, Option.bind_some, k1, d1, bs, b3]
      rfl
    · unfold f_X12_setDiscount
      rw [k2, Option.bind_some, if_neg (by decide), d2, Option.bind_some, if_pos rfl]
      exact no ρ 2 _ _ _ (by decide) (by decide)
  rcases ra_i (v := v3) 0 999 (by decide) (by decide) (a' := 0) (b' := 999) rfl rfl with ⟨e1, e2⟩ | ⟨z, rfl, -, hz, e1, e2⟩
  · refine ag_no (k := 2) (y := sz) rfl ho hC hR ?_ (by decide) (by decide) (fun ρ => ⟨uI M 8 2, 0, ?_, Sd.u8, u8_v⟩)
    · simp only [f_L_setDiscount, f_X11_setDiscount, hC.xo, Option.bind_some, k1, d1, e1, bs, b3]
      rfl
    · unfold f_X12_setDiscount
      rw [k2, Option.bind_some, if_neg (by decide), d2, Option.bind_some, if_neg (by decide), e2, Option.bind_some, if_pos rfl]
      exact no ρ 2 _ _ _ (by decide) (by decide)
  obtain ⟨T, D, ct, cd, nt, nd_, t1, t2, t3, t4, t5, t6, t7, t8, t9, t10⟩ := hR.2.2.2.2.1
  obtain ⟨u1, u2, u3⟩ := t2 k hk
  obtain ⟨A', W', K', τ, y, x1, x2, x3, x4, x5⟩ := x_tell (v := iI (z : Nat)) (N := N) (p := d) hC hF (show 2 * k + 1 < 12 by omega) u2 (by omega) (by omega) hN
  obtain ⟨pos, hP⟩ := Pos.ex (M.2.1 16) (iI ((1000000 * k + d : Nat) : Int)) nd_
  obtain ⟨m1, m2⟩ := t8.up (v := iI (z : Nat)) (many' := M.2.1 19) (by omega) hk (show d < 1000000 by omega) hP
  have mt := fun ρ => m_tellsD (σ := ρ) (M := uI M 8 0) (mb := mb) (v := iI (z : Nat)) (N := N) hk (show d < 1000000 by omega) (show nd_ ≤ 512 by omega) hP hN
  obtain ⟨M1, hM1⟩ : ∃ M1, M1 = uI (uA (uA (uA (uI M 8 0) 16 pos (iI ((1000000 * k + d : Nat) : Int))) 17 pos (iI (z : Nat))) 19 k ((uI M 8 0).2.1 19 k + if pos = nd_ then 1 else 0)) 21 (iI ((if pos = nd_ then nd_ + 1 else nd_ : Nat) : Int)) := ⟨_, rfl⟩
  have key : f_X11_setDiscount N σ sz (A 0 0) (iI (k : Nat)) (iI (d : Nat)) (iI (z : Nat)) = some (.inr (iI ((if D k d = none then cd k + 1 else cd k : Nat) : Int)), τ, y) := by
    have g4 := xR_0_5 (K := K) (σ := σ) hC.1
    have q6 := xA_7 (K := K) (σ := σ) (i := iI (k : Nat)) hC.1
    have o6 := xO_26 (K := K) (σ := σ) hC.1 (show 2 * k + 1 < 12 by omega)
    rw [hC.eqk] at g4 q6 o6
    unfold f_X11_setDiscount
    rw [k1, Option.bind_some]
    dsimp only [bs]
    rw [d1, Option.bind_some]
    dsimp only
    rw [e1, Option.bind_some]
    dsimp only
    rw [g4, Option.bind_some, q6, inN hk (by decide), if_pos rfl, clN (by omega), Option.bind_some, show rk A (K.2.2.1 7) 7 k = some (A 26 (2 * k + 1)) from if_pos hk, Option.bind_some, o6, Option.bind_some, x1]
    rfl
  have f18 : ∀ k', M1.2.1 19 k' = iI ((if k' = k then (if D k d = none then cd k + 1 else cd k) else cd k' : Nat) : Int) ∨ 6 ≤ k' := by
    intro k'
    by_cases hk' : k' < 6
    · refine Or.inl ?_
      rw [hM1, uI_o, uA_v]
      by_cases e : k' = k
      · rw [if_pos ⟨rfl, e⟩, if_pos e]
        show M.2.1 19 k + _ = _
        rw [u3]
        by_cases h : pos = nd_
        · rw [if_pos h, if_pos (m2.mpr h), jI_s]
        · rw [if_neg h, if_neg (fun w => h (m2.mp w)), iI_lit 0, jI_add, Nat.add_zero]
      · rw [if_neg (fun w => e w.2), if_neg e, uA_v, if_neg (by omega), uA_v, if_neg (by omega)]
        exact (t2 k' hk').2.2
    · exact Or.inr (by omega)
  refine ag_ok (A := A') (v := (iI ((if D k d = none then cd k + 1 else cd k : Nat) : Int)).toInt64) (y := y) x4.1 ho ?_ x2 (fun ρ => ⟨M1, iI ((if D k d = none then cd k + 1 else cd k : Nat) : Int), ?_, ?_, rfl, ?_⟩)
  · simp only [f_L_setDiscount, hC.xo, Option.bind_some, key, b3, bs]
  · have i8 : (uI M 8 0).1 21 = iI (nd_ : Nat) := t6
    unfold f_X12_setDiscount
    rw [k2, Option.bind_some, if_neg (by decide), d2, Option.bind_some, if_neg (by decide), e2, Option.bind_some, if_neg (by decide)]
    unfold b_X12_setDiscount_41
    rw [ov_isO, Option.bind_some, ff0, bb2, if_pos rfl, oR_16, Option.bind_some, oR_17, Option.bind_some, oR_19, Option.bind_some, oI_21, Option.bind_some, i8, mt ρ, bb2, oP_21, Option.bind_some, ← hM1, oR_19, Option.bind_some, oA_19, inN hk (by decide), if_pos rfl, clN (by omega), Option.bind_some]
    rcases f18 k with h | h
    · rw [h, if_pos rfl]
    · omega
  · rw [hM1, uI_v, if_neg (by decide)]; exact u8_v (M := M) (v := 0)
  · have s1 : ∀ q, q ≠ 8 → q ≠ 21 → M1.1 q = M.1 q := fun q h1 h2 => by
      rw [hM1, uI_v, if_neg h2, uA_o, uA_o, uA_o, uI_v, if_neg h1]
    have s2 : ∀ q, q ≠ 16 → q ≠ 17 → q ≠ 19 → M1.2.1 q = M.2.1 q := fun q h1 h2 h3 => by
      funext i
      rw [hM1, uI_o, uA_v, if_neg (by omega), uA_v, if_neg (by omega), uA_v, if_neg (by omega)]; rfl
    have f14 : M1.2.1 16 = fun i => if i = pos then iI ((1000000 * k + d : Nat) : Int) else M.2.1 16 i := by
      funext i
      rw [hM1, uI_o, uA_v, if_neg (by omega), uA_v, if_neg (by omega), uA_v]
      by_cases e : i = pos
      · rw [if_pos ⟨rfl, e⟩, if_pos e]
      · rw [if_neg (fun w => e w.2), if_neg e]; rfl
    have f15 : M1.2.1 17 = fun i => if i = pos then iI (z : Nat) else M.2.1 17 i := by
      funext i
      rw [hM1, uI_o, uA_v, if_neg (by omega), uA_v]
      by_cases e : i = pos
      · rw [if_pos ⟨rfl, e⟩, if_pos e]
      · rw [if_neg (fun w => e w.2), if_neg e, uA_v, if_neg (by omega)]; rfl
    obtain ⟨y1, y2, y3, y4, y5, y6⟩ := x4
    have oth : ∀ (T1 T2 : Nat → Nat → Option Int32) (j' k' c' : Nat), j' ≠ 2 * k + 1 → T2 k' = T1 k' → StT T1 K j' k' c' → StT T2 K' j' k' c' := fun T1 T2 j' k' c' h1 h2 h3 => h3.oth (y4 26 j' (by omega)).1 (y4 27 j' (by omega)).1 (y4 28 j' (by omega)).1 (y4 27 j' (by omega)).2 (y4 28 j' (by omega)).2 h2
    have up' : ∀ k', k' ≠ k → upT D k d (iI (z : Nat)) k' = D k' := fun k' h => by
      funext p
      exact upT_n (fun w => h w.1)
    have val : ∀ k' p' v', upT D k d (iI (z : Nat)) k' p' = some v' → ∃ z' : Nat, z' ≤ 999 ∧ v' = iI (z' : Nat) := fun k' p' v' h => by
      by_cases e : k' = k ∧ p' = d
      · rw [e.1, e.2, upT_s] at h
        exact ⟨z, hz, (Option.some.inj h).symm⟩
      · rw [upT_n e] at h
        exact t10 k' p' v' h
    have main : ∀ k', k' < 6 → (if k' = k then (if D k d = none then cd k + 1 else cd k) else cd k') ≤ n + 1 ∧ StT (upT D k d (iI (z : Nat))) K' (2 * k' + 1) k' (if k' = k then (if D k d = none then cd k + 1 else cd k) else cd k') ∧ M1.2.1 19 k' = iI ((if k' = k then (if D k d = none then cd k + 1 else cd k) else cd k' : Nat) : Int) := by
      intro k' hk'
      refine ⟨?_, ?_, ?_⟩
      · by_cases e : k' = k
        · rw [if_pos e]; split <;> omega
        · rw [if_neg e]; have := (t2 k' hk').1; omega
      · by_cases e : k' = k
        · rw [if_pos e, e]; exact x5
        · rw [if_neg e]
          exact oth _ _ _ _ _ (by omega) (up' k' e) (t2 k' hk').2.1
      · rcases f18 k' with h | h
        · exact h
        · omega
    have nle : (if pos = nd_ then nd_ + 1 else nd_) ≤ n + 1 := by split <;> omega
    have f20 : M1.1 21 = iI ((if pos = nd_ then nd_ + 1 else nd_ : Nat) : Int) := by rw [hM1, uI_v, if_pos rfl]
    have hRS : RS (n + 1) K' M1 := by
      refine ⟨T, upT D k d (iI (z : Nat)), ct, fun k' => if k' = k then (if D k d = none then cd k + 1 else cd k) else cd k', nt, if pos = nd_ then nd_ + 1 else nd_, fun k' hk' => ⟨by have := (t1 k' hk').1; omega, oth _ _ _ _ _ (by omega) rfl (t1 k' hk').2.1, ?_⟩, main, by omega, nle, ?_, f20, ?_, ?_, t9, val⟩
      · rw [s2 18 (by decide) (by decide) (by decide)]; exact (t1 k' hk').2.2
      · rw [s1 20 (by decide) (by decide)]; exact t5
      · rw [s2 14 (by decide) (by decide) (by decide), s2 15 (by decide) (by decide) (by decide)]; exact t7
      · rw [f14, f15]; exact m1
    refine Rel.told (j := 2 * k + 1) ((hR.up).vk x3) ⟨y1, y2, y3, y4, y5, y6⟩ (fun q h1 h2 h3 h4 => s1 q h2 (by omega)) (fun q h => s2 q (by omega) (by omega) (by omega)) (by rw [hM1]; rfl) hRS
