theorem p_book {xb mb ob N : Nat} (hN : 1000 ≤ N) : A_book (I0 xb mb ob) N xb mb ob := by
  intro v
  refine ag_in (fun n σ sz ni A W K M hn hA ho hC hR hF => ?_)
  subst hA
  have bb2 : ∀ {α β γ : Type} (x : α) (y : β) (f : α → β → Option γ), b2 (some (x, y)) f = f x y := fun _ _ _ => rfl
  obtain ⟨c, a, sh, S, hL, hle⟩ := hR.2.2.2.2.2.2.2.2
  have hL0 := hL
  obtain ⟨l1, l2, l3, l4, ⟨q1, q2, q3, q4, q5, q6⟩, l5, l6, l7, l8, l9, l10⟩ := hL
  have hni := hR.2.2.2.2.2.1.1
  have no : ∀ (ρ : Sto) (v : Int32) (k : Nat), k ≠ 0 → k < 100 → b_X12_book_71 N (ov mb M ρ) mb v (iI (k : Nat)) mb = some (0, ov mb (uI M 8 (iI (k : Nat))) ρ) := by
    intro ρ v k h1 h2
    unfold b_X12_book_71
    rw [ov_isO, Option.bind_some, m_fails h2, decide_eq_true (by omega)]
    rfl
  rcases iv_cases hC hR.2.2.2.2.2.1 (v := v) with ⟨h1, h2⟩ | ⟨i, rfl, hi, h1, h2⟩
  · refine ag_no (k := 1) (y := sz) rfl ho hC hR ?_ (by decide) (by decide) (fun ρ => ⟨uI M 8 1, 0, ?_, Sd.u8, u8_v⟩)
    · simp only [f_L_book, f_X11_book, hC.xo, Option.bind_some, h1, bs, b3]
      rfl
    · unfold f_X12_book
      rw [ov_isO, Option.bind_some, h2, Option.bind_some, if_pos rfl]
      exact no ρ v 1 (by decide) (by decide)
  have hb := x_has hC hL0 (i := i) (N := N) (by omega) (by omega)
  have i20 : inB (iI (i : Nat)) 20 = true := inN (by omega) (by decide)
  have k20 : (iI (i : Nat)).toNatClampNeg = i := clN (by omega)
  obtain ⟨lc, cur, by_, m, E, T, hB, hBm⟩ := bl_of hR hi
  have hB0 := hB
  obtain ⟨⟨-, -, b3', b4, b5⟩, c1, -, -, -, c5⟩ := hB0
  obtain ⟨-, d, cur', lc', by', g1, -, -, g4, g5, -⟩ := hR.2.2.2.2.2.1.2.2.2.2 i hi
  have r10 : gR σ (A 0 0) 10 10 = some (A 17 0) := by
    have := xR_0_10 (K := K) (σ := σ) hC.1
    rw [hC.eqk] at this
    exact this
  have o17 : isO σ (A 17 0) 3 = some () := by
    have := xO_17 (K := K) (σ := σ) hC.1
    rw [hC.eqk] at this
    exact this
  have xd : gI σ (A 29 i) 2 0 = some (iI (d : Nat)) := by
    have := xI_29_0 (K := K) (σ := σ) hC.1 hi
    rw [hC.eqk, g4] at this
    exact this
  have xc : gI σ (A 29 i) 2 1 = some (iI (cur : Nat)) := by
    have := xI_29_1 (K := K) (σ := σ) hC.1 hi
    rw [hC.eqk, c1] at this
    exact this
  have c0 : iI (cur : Nat) = 0 ↔ cur = 0 := by rw [iI_lit 0, jI_eq (by omega) (by decide)]
  have cl0 : iI (cur : Nat) ≤ 0 ↔ cur = 0 := by rw [iI_lit 0, jI_le (by omega) (by decide)]; omega
  have lt_d : iI sh < iI (d : Nat) ↔ sh < d := iI_lt ⟨by omega, by omega⟩ ⟨by omega, by omega⟩
  have z26 : M.2.1 26 i = 0 ∨ M.2.1 26 i = 1 := (l9 i (by omega)).1
  have ns := x_notShut hC q5 l3 l4 (d := (d : Nat)) ⟨by omega, by omega⟩
  by_cases hbk : M.2.1 26 i = 0
  case neg =>
    refine ag_no (k := 2) (y := sz) rfl ho hC hR ?_ (by decide) (by decide) (fun ρ => ⟨uI M 8 2, 0, ?_, Sd.u8, u8_v⟩)
    · simp only [f_L_book, f_X11_book, hC.xo, Option.bind_some, h1, bs, b3, r10, o17, hb, if_neg hbk]
      rfl
    · unfold f_X12_book
      rw [ov_isO, Option.bind_some, h2, Option.bind_some, if_neg (by decide), oR_26, Option.bind_some, oA_26, i20, if_pos rfl, k20, Option.bind_some, if_neg hbk]
      exact no ρ _ 2 (by decide) (by decide)
  by_cases hsh : sh < d
  case neg =>
    rw [if_neg hsh] at ns
    refine ag_no (k := 2) (y := sz) rfl ho hC hR ?_ (by decide) (by decide) (fun ρ => ⟨uI M 8 2, 0, ?_, Sd.u8, u8_v⟩)
    · simp only [f_L_book, f_X11_book, hC.xo, Option.bind_some, h1, bs, b3, r10, o17, hb, hbk, if_true, xd, ns]
      rfl
    · unfold f_X12_book
      rw [ov_isO, Option.bind_some, h2, Option.bind_some, if_neg (by decide), oR_26, Option.bind_some, oA_26, i20, if_pos rfl, k20, Option.bind_some, if_pos hbk, oR_22, Option.bind_some, oA_22, i20, if_pos rfl, k20, Option.bind_some, g5, oI_47, Option.bind_some, q6, if_neg (fun w => hsh (lt_d.mp w))]
      exact no ρ _ 2 (by decide) (by decide)
  rw [if_pos hsh] at ns
  have mrun : ∀ ρ, f_X12_book N (ov mb M ρ) mb (iI (i : Nat)) = if cur = 0 then b_X12_book_70 N (ov mb M ρ) mb (iI (i : Nat)) mb else if M.2.2 12 (4 * cur) = 0 then b_X12_book_71 N (ov mb M ρ) mb (iI (i : Nat)) 3 mb else b_X12_book_70 N (ov mb M ρ) mb (iI (i : Nat)) mb := by
    intro ρ
    have e4 : (4 : Int32) * iI (cur : Nat) = iI ((4 * cur : Nat) : Int) := by rw [iI_lit 4, jI_mul]
    have i16 : inB (iI ((4 * cur : Nat) : Int)) 16 = true := inN (by omega) (by decide)
    have k16 : (iI ((4 * cur : Nat) : Int)).toNatClampNeg = 4 * cur := clN (by omega)
    unfold f_X12_book
    rw [ov_isO, Option.bind_some, h2, Option.bind_some, if_neg (by decide), oR_26, Option.bind_some, oA_26, i20, if_pos rfl, k20, Option.bind_some, if_pos hbk, oR_22, Option.bind_some, oA_22, i20, if_pos rfl, k20, Option.bind_some, g5, oI_47, Option.bind_some, q6, if_pos (lt_d.mpr hsh)]
    simp only [oR_23, oR_12, Option.bind_some, oA_23, i20, k20, if_true, hBm.1, cl0, e4, oA_12, i16, k16]
  -- the rate home
  have rate : (cur ≠ 0 ∧ K.2.2.1 5 (4 * cur) = none ∧ M.2.2 12 (4 * cur) = 0) ∨ cur = 0 ∨ cur ≠ 0 ∧ ∃ u s, Rt K M σ (4 * cur + 0) u s ∧ ¬ M.2.2 12 (4 * cur) = 0 := by
    by_cases h : cur = 0
    · exact Or.inr (Or.inl h)
    · rcases ra_cases hR (i := 4 * cur) (by omega) with ⟨r1, r2⟩ | ⟨u, s, hr, r2⟩
      · exact Or.inl ⟨h, r1, r2⟩
      · exact Or.inr (Or.inr ⟨h, u, s, hr, r2⟩)
  rcases rate with ⟨r0, r1, r2⟩ | rate
  · have ck : f_X11_checkRate σ (A 0 0) (iI (cur : Nat)) 0 = some (.inl 2) := by
      have := x_checkRate hC (c := cur) (o := 0) b4 (by decide)
      rw [Nat.add_zero, r1] at this
      exact this
    refine ag_no (k := 3) (y := sz) rfl ho hC hR ?_ (by decide) (by decide) (fun ρ => ⟨uI M 8 3, 0, ?_, Sd.u8, u8_v⟩)
    · simp only [f_L_book, f_X11_book, hC.xo, Option.bind_some, h1, bs, b3, r10, o17, hb, hbk, if_true, xd, ns, xc, c0, if_neg r0, ck]
      rfl
    · rw [mrun, if_neg r0, if_pos r2]
      exact no ρ _ 3 (by decide) (by decide)
  have mrun2 : ∀ ρ, f_X12_book N (ov mb M ρ) mb (iI (i : Nat)) = b_X12_book_71 N (ov mb M ρ) mb (iI (i : Nat)) 0 mb := by
    intro ρ
    rw [mrun]
    rcases rate with h | ⟨h, u, s, -, h'⟩
    · rw [if_pos h]; rfl
    · rw [if_neg h, if_neg h']; rfl
  have xrun : f_X11_book N σ sz (A 0 0) (iI (i : Nat)) = b_X11_book_52 N σ sz (A 0 0) (iI (i : Nat)) (A 29 i) := by
    unfold f_X11_book
    rw [hC.xo, Option.bind_some, h1, Option.bind_some]
    dsimp only [bs]
    rw [r10, Option.bind_some, o17, Option.bind_some, hb, Option.bind_some, if_pos hbk, xd, Option.bind_some, ns, Option.bind_some]
    dsimp only
    rw [xc, Option.bind_some]
    rcases rate with h | ⟨h, u, s, ⟨p, hp, -⟩, h'⟩
    · rw [if_pos (c0.mpr h)]
    · have ck : f_X11_checkRate σ (A 0 0) (iI (cur : Nat)) 0 = some (.inr ()) := by
        have := x_checkRate hC (c := cur) (o := 0) b4 (by decide)
        rw [hp] at this
        exact this
      rw [if_neg (fun w => h (c0.mp w)), Option.bind_some, ck, Option.bind_some]
  -- sums
  have n1 : netV by_ m E lc ≤ 10000000000 * 12 + 1 := by
    cases by_ with
    | true =>
      rw [netV_t]
      have : sN (nG m E) lc ≤ 10000000000 * lc := sN_le (fun j hj => nG_le (c5 j hj).1)
      omega
    | false =>
      rw [netV_f]
      have h3 : sN E lc ≤ 9999999 * 999999 * 1000 * lc := sN_le (fun j hj => (c5 j hj).1)
      have := (rq_le false m (sN E lc) 1000000).2
      omega
  have n2 : sN (taxV by_ m E T lc) lc ≤ 1000000000000 * lc := by
    refine sN_le (fun j hj => ?_)
    have t := (c5 j hj).2.1
    cases by_ with
    | true =>
      rw [taxV_t]
      have g1 := nG_le (m := m) (c5 j hj).1
      have g2 : nG m E j * T j ≤ 10000000000 * 9999 := Nat.mul_le_mul g1 t
      have := (rq_le false m (nG m E j * T j) 10000).2
      omega
    | false =>
      rw [taxV_f]
      by_cases h : aB (alk T j) lc = true ∨ T j = 0
      · rw [if_pos h]; omega
      · rw [if_neg h]
        have hs : sN (lik E T j) lc ≤ 9999999 * 999999 * 1000 * lc := sN_le (fun v hv => by
          unfold lik
          have := (c5 v hv).1
          split <;> omega)
        have hx : sN (lik E T j) lc * T j ≤ 9999999 * 999999 * 1000 * 12 * 9999 := Nat.mul_le_mul (by omega) t
        have := (rq_le false m (sN (lik E T j) lc * T j) 10000000000).2
        omega
  obtain ⟨V, hV⟩ : ∃ V, V = netV by_ m E lc := ⟨_, rfl⟩
  obtain ⟨G, hGd⟩ : ∃ G, G = netV by_ m E lc + sN (taxV by_ m E T lc) lc := ⟨_, rfl⟩
  obtain ⟨P, hP⟩ : ∃ P, P = (netP by_ m E lc || aB (taxP by_ m E T lc) lc) := ⟨_, rfl⟩
  -- what an amount is worth at home
  obtain ⟨cv, hcv1, hcv2⟩ : ∃ cv : Nat → Nat ⊕ Int64, (∀ {σ' : Sto} {sz' : Nat} {x : Nat}, x ≤ 999999999999999999 → Cf mb ni A W K M σ' → Fr σ' sz' → VK σ σ' → ∃ τ y, (∀ a, a < sz' → τ a = σ' a) ∧ Fr τ y ∧ f_X11_atHome σ' sz' (A 0 0) (iI (cur : Nat)) (iL (x : Nat)) = some (cv x, τ, y)) ∧ (∀ {M1 : MS} {ρ : Sto} {x : Nat} {b : Bool}, x ≤ 999999999999999999 → Sd M M1 → M1.1 2 = bI b → ∃ M2 b' v', Sc M1 M2 ∧ M2.1 2 = bI b' ∧ (if cur = 0 then M2 = M1 ∧ v' = iL (x : Nat) else f_X12_changed N (ov mb M1 ρ) mb (iI (cur : Nat)) 0 (iL (x : Nat)) = some (v', ov mb M2 ρ)) ∧ (b = true → b' = true) ∧ (b = false → (b' = true ∧ cv x = .inl 3) ∨ ∃ w : Nat, w ≤ 999999999999999999 ∧ b' = false ∧ cv x = .inr (iL (w : Nat)) ∧ v' = iL (w : Nat))) := by
    rcases rate with h | ⟨h, u, s, hr, h'⟩
    · refine ⟨fun x => .inr (iL (x : Nat)), fun {σ' sz' x} hx hC' hF' hv' => ⟨σ', sz', fun _ _ => rfl, hF', ?_⟩, fun {M1 ρ x b} hx hs hb' => ⟨M1, b, iL (x : Nat), Sc.rf, hb', ?_, id, fun hb0 => Or.inr ⟨x, hx, hb0, rfl, rfl⟩⟩⟩
      · unfold f_X11_atHome
        rw [if_pos (c0.mpr h)]
      · rw [if_pos h]; exact ⟨rfl, rfl⟩
    · obtain ⟨dc, cc, mc, k1⟩ := hR.2.2.1 cur b4
      obtain ⟨do_, co, mo, k2⟩ := hR.2.2.1 0 (by decide)
      refine ⟨fun x => spX (x * u.natAbs) ((do_ : Int) - dc - s) mo, fun {σ' sz' x} hx hC' hF' hv' => ?_, fun {M1 ρ x b} hx hs hb' => ?_⟩
      · obtain ⟨τ, y, z1, z2, z3⟩ := x_changed hC' hF' b4 (by decide : 0 < 4) hx k1 k2 (hr.vk hv' Sd.rf)
        refine ⟨τ, y, z1, z2, ?_⟩
        unfold f_X11_atHome
        have z3' : f_X11_changed σ' sz' (A 0 0) (iI (cur : Nat)) 0 (iL (x : Nat)) = _ := z3
        rw [if_neg (fun w => h (c0.mp w)), hC'.xo, Option.bind_some, z3']
        dsimp only [b3]
        cases spX (x * u.natAbs) ((do_ : Int) - dc - s) mo <;> rfl
      · obtain ⟨p, p1, p2, p3, p4, p5, p6⟩ := hr
        have w5 : M1.2.2 12 (4 * cur + 0) = iL u := by rw [hs.2.2]; exact p5
        have w6 : M1.2.1 13 (4 * cur + 0) = iI s := by rw [hs.2.1 13 (by decide) (by decide)]; exact p6
        cases b with
        | true =>
          obtain ⟨M2, y1, y2, y3⟩ := m_changed1 (mb := mb) (K := K) (M := M1) (ρ := ρ) (N := N) b4 (by decide : 0 < 4) hx (Cu.sd k1 hs) (Cu.sd k2 hs) p3 p4 w5 w6 hb' (by omega)
          exact ⟨M2, true, 0, y1, y2, by rw [if_neg h]; exact y3, fun _ => rfl, fun w => absurd w (by decide)⟩
        | false =>
          obtain ⟨M2, y1, y2⟩ := m_changed (mb := mb) (K := K) (M := M1) (ρ := ρ) (N := N) b4 (by decide : 0 < 4) hx (Cu.sd k1 hs) (Cu.sd k2 hs) p3 p4 w5 w6 hb' (by omega)
          rcases y2 with ⟨y3, y4, y5⟩ | ⟨w, y3, y4, y5, y6⟩
          · exact ⟨M2, true, 0, y1, y4, by rw [if_neg h]; exact y5, fun w => absurd w (by decide), fun _ => Or.inl ⟨rfl, y3⟩⟩
          · exact ⟨M2, false, iL (w : Nat), y1, y5, by rw [if_neg h]; exact y6, fun w => absurd w (by decide), fun _ => Or.inr ⟨w, y3, rfl, y4, rfl⟩⟩
  have cform : ∀ x, x ≤ 999999999999999999 → cv x = .inl 3 ∨ ∃ w : Nat, w ≤ 999999999999999999 ∧ cv x = .inr (iL (w : Nat)) := by
    intro x hx
    obtain ⟨M2, b', v', -, -, -, -, h⟩ := hcv2 (M1 := uI (uI M 8 0) 2 0) (ρ := σ) (b := false) hx (Sd.u8.tr Sc.ui.sd) (by rw [uI_v, if_pos rfl]; rfl)
    rcases h rfl with ⟨-, h⟩ | ⟨w, h1, -, h2, -⟩
    · exact Or.inl h
    · exact Or.inr ⟨w, h1, h2⟩
  have hVle : V ≤ 999999999999999999 := by omega
  have hGle : G ≤ 999999999999999999 := by omega
  have cls : ∃ τ y, Cf mb ni A W K M τ ∧ VK σ τ ∧ b_X11_book_52 N σ sz (A 0 0) (iI (i : Nat)) (A 29 i) = (if P = true then some (.inl 3, τ, y) else bs (cv G) (fun j => some (.inl j, τ, y)) fun g => bs (cv V) (fun j => some (.inl j, τ, y)) fun w => if 1000000000000 < w then some (.inl 3, τ, y) else if g ≤ 1000000000000 then (if w ≤ 0 then b_X11_book_139 N τ y (A 0 0) (iI (i : Nat)) (A 29 i) w (g - w) 0 (A 0 0) else b_X11_book_139 N τ y (A 0 0) (iI (i : Nat)) (A 29 i) w (g - w) 1 (A 0 0)) else some (.inl 3, τ, y)) := by
    have x1 := x_modeOf (σ := σ) hC.1 hB
    have x2 := x_netSum (σ := σ) (N := N) hC.1 hB (by omega)
    have x3 := x_taxSum (σ := σ) (N := N) hC.1 hB (by omega)
    rw [hC.eqk] at x1 x2 x3
    unfold b_X11_book_52
    rw [hC.xo, Option.bind_some, x1, Option.bind_some, x_cells hC hi, Option.bind_some, x2, Option.bind_some]
    by_cases hn : netP by_ m E lc = true
    · refine ⟨σ, sz, hC, VK.rf, ?_⟩
      have : P = true := by rw [hP, hn]; rfl
      rw [if_pos hn, if_pos this]
      rfl
    rw [if_neg hn]
    dsimp only [bs]
    rw [xc, Option.bind_some, Option.bind_some, x3, Option.bind_some]
    by_cases ht : aB (taxP by_ m E T lc) lc = true
    · refine ⟨σ, sz, hC, VK.rf, ?_⟩
      have : P = true := by rw [hP, ht, Bool.or_true]
      rw [if_pos ht, if_pos this]
    rw [if_neg ht]
    have hP0 : ¬ P = true := by
      rw [hP]
      intro w
      rcases Bool.or_eq_true_iff.mp w with w | w
      · exact hn w
      · exact ht w
    dsimp only
    rw [jL_add, ← hGd, ← hV]
    obtain ⟨τ, y, z1, z2, z3⟩ := hcv1 hGle hC hF VK.rf
    have cτ := hC.mk_ hF z1
    have vτ : VK σ τ := fun p u s hv => hv.of (z1 p (hv.lt hF))
    rw [z3]
    dsimp only [b3]
    rcases cform G hGle with hg | ⟨g, hg9, hg⟩
    · refine ⟨τ, y, cτ, vτ, ?_⟩
      rw [if_neg hP0, hg]
      rfl
    · rw [hg]
      dsimp only
      have xc' : gI τ (A 29 i) 2 1 = some (iI (cur : Nat)) := by
        have := xI_29_1 (K := K) (σ := τ) cτ.1 hi
        rw [cτ.eqk, c1] at this
        exact this
      obtain ⟨τ', y', z1', z2', z3'⟩ := hcv1 hVle cτ z2 vτ
      have cτ' := cτ.mk_ z2 z1'
      have vτ' : VK σ τ' := vτ.tr (fun p u s hv => hv.of (z1' p (hv.lt z2)))
      refine ⟨τ', y', cτ', vτ', ?_⟩
      rw [if_neg hP0, Option.bind_some]
      dsimp only
      rw [xc', Option.bind_some, cτ.xo, Option.bind_some, z3', Option.bind_some]
      dsimp only
      rcases cform V hVle with hw | ⟨w, hw9, hw⟩
      · rw [hw]
      · rw [hw]
        rfl
  have rfo : ∀ ρ, ∃ M2 b' vV vG, Sd M M2 ∧ M2.1 2 = bI b' ∧ f_X12_book N (ov mb M ρ) mb (iI (i : Nat)) = b_X12_book_136 N (ov mb M2 ρ) mb (iI (i : Nat)) vV vG ∧ ((b' = true ∧ (P = true ∨ cv G = .inl 3 ∨ cv V = .inl 3)) ∨ (b' = false ∧ P = false ∧ ∃ w g : Nat, w ≤ 999999999999999999 ∧ g ≤ 999999999999999999 ∧ cv V = .inr (iL (w : Nat)) ∧ cv G = .inr (iL (g : Nat)) ∧ vV = iL (w : Nat) ∧ vG = iL (g : Nat))) := by
    intro ρ
    have hB2 : Bm i lc cur by_ m E T (uI (uI M 8 0) 2 0) := hBm.sd (Sd.u8.tr Sc.ui.sd)
    obtain ⟨M2, g1, g2⟩ := m_netOf (mb := mb) (σ := ρ) (b := false) (N := N) hB2 (fun j hj => (c5 j hj).1) (by omega) b4 b3' (by rw [uI_v, if_pos rfl]; rfl) hN
    rw [Bool.false_or] at g2
    obtain ⟨M3, g3, g4⟩ := m_taxesOf (mb := mb) (σ := ρ) (N := N) (hB2.sd g2.1) (fun j hj => (c5 j hj).1) (fun j hj => (c5 j hj).2.1) (by omega) b4 b3' g2.2.2 hN
    rw [← hP] at g4
    have S3 : Sd M M3 := ((Sd.u8.tr Sc.ui.sd).tr g2.1).tr g4.1
    obtain ⟨M4, b4', v4', s4, t4, u4, w4, y4⟩ := hcv2 (M1 := M3) (ρ := ρ) (b := P) hVle S3 g4.2.2
    have S4 : Sd M M4 := S3.tr s4.sd
    obtain ⟨M5, b5', v5', s5, t5, u5, w5, y5⟩ := hcv2 (M1 := M4) (ρ := ρ) (b := b4') hGle S4 t4
    refine ⟨M5, b5', v4', v5', S4.tr s5.sd, t5, ?_, ?_⟩
    · have e23 : M3.2.1 23 i = iI (cur : Nat) := by rw [S3.2.1 23 (by decide) (by decide)]; exact hBm.1
      have e23' : M4.2.1 23 i = iI (cur : Nat) := by rw [S4.2.1 23 (by decide) (by decide)]; exact hBm.1
      rw [mrun2]
      unfold b_X12_book_71
      rw [ov_isO, Option.bind_some, ff0, bb2, if_pos rfl, oP_2, Option.bind_some, ov_isO, Option.bind_some, g1, bb2, ov_isO, Option.bind_some, g3, bb2]
      dsimp only [lt_]
      rw [oR_23, Option.bind_some, oA_23, i20, if_pos rfl, k20, Option.bind_some, e23, jL_add, ← hGd, ← hV]
      by_cases h : cur = 0
      · rw [if_pos h] at u4 u5
        rw [if_pos (cl0.mpr h), u4.2, u5.2, u5.1, u4.1]
      · rw [if_neg h] at u4 u5
        rw [if_neg (fun w => h (cl0.mp w)), Option.bind_some, oA_23, i20, if_pos rfl, k20, Option.bind_some, e23, ov_isO, Option.bind_some, u4, bb2, oR_23, Option.bind_some, oA_23, i20, if_pos rfl, k20, Option.bind_some, e23', ov_isO, Option.bind_some, u5, bb2]
    · cases hb4 : P with
      | true =>
        exact Or.inl ⟨w5 (w4 hb4), Or.inl rfl⟩
      | false =>
        rcases y4 hb4 with ⟨h1, h2⟩ | ⟨w, h1, h2, h3, h4⟩
        · exact Or.inl ⟨w5 h1, Or.inr (Or.inr h2)⟩
        · rcases y5 h2 with ⟨k1, k2⟩ | ⟨g, k1, k2, k3, k4⟩
          · exact Or.inl ⟨k1, Or.inr (Or.inl k2)⟩
          · exact Or.inr ⟨k2, rfl, w, g, h1, k1, h3, k3, h4, k4⟩
  obtain ⟨τ, y, cτ, vτ, cl⟩ := cls
  have rτ : Rel n ni A K M τ := hR.vk vτ
  have no4 : ∀ (ρ : Sto) (M2 : MS) (vV vG : Int64) (s0 s1 : Int32), M2.1 2 = 1 → b_X12_book_159 N (ov mb M2 ρ) mb (iI (i : Nat)) vV vG s0 s1 = some (0, ov mb (uI M2 8 4) ρ) := by
    intro ρ M2 vV vG s0 s1 h
    unfold b_X12_book_159 b_X12_book_187 b_X12_book_209
    dsimp only [lt_]
    rw [oI_2, Option.bind_some, h, if_neg (by decide), ov_isO, Option.bind_some, ff4, bb2, if_neg (by decide)]
  have no136 : ∀ (ρ : Sto) (M2 : MS) (vV vG : Int64), M2.1 2 = 1 → b_X12_book_136 N (ov mb M2 ρ) mb (iI (i : Nat)) vV vG = some (0, ov mb (uI M2 8 4) ρ) := by
    intro ρ M2 vV vG h
    unfold b_X12_book_136 b_X12_book_147
    split <;> split <;> exact no4 _ _ _ _ _ _ h
  obtain ⟨M0, b0, vV0, vG0, -, -, -, hcase⟩ := rfo σ
  rcases hcase with ⟨-, hbad⟩ | ⟨-, hgood⟩
  · -- something was refused
    have key : f_X11_book N σ sz (A 0 0) (iI (i : Nat)) = some (.inl 3, τ, y) := by
      rw [xrun, cl]
      by_cases hp : P = true
      · rw [if_pos hp]
      · rw [if_neg hp]
        rcases hbad with h | h | h
        · exact absurd h hp
        · rw [h]; rfl
        · rcases cform G hGle with hg | ⟨g, -, hg⟩
          · rw [hg]; rfl
          · rw [hg, h]; rfl
    refine ag_ex (k := 4) (y := y) rfl ho ?_ cτ (by decide) (by decide) (fun ρ => ?_)
    · simp only [f_L_book, hC.xo, Option.bind_some, key, b3, bs]
      rfl
    · obtain ⟨M2, b', vV, vG, e1, e2, e3, e4⟩ := rfo ρ
      rcases e4 with ⟨e5, -⟩ | ⟨-, e5, w, g, -, -, e6, e7, -⟩
      · refine ⟨uI M2 8 4, 0, ?_, u8_v, (rτ.sd (e1.tr Sd.u8)).up⟩
        rw [e3, no136 _ _ _ _ (by rw [e2, e5]; rfl)]
      · exfalso
        rcases hbad with h | h | h
        · rw [h] at e5; cases e5
        · rw [h] at e7; cases e7
        · rw [h] at e6; cases e6
  · obtain ⟨hp, w, g, hw9, hg9, hw, hg, -, -⟩ := hgood
    have hp' : ¬ P = true := by rw [hp]; decide
    rw [if_neg hp', hg, hw] at cl
    dsimp only [bs] at cl
    have go : ∀ ρ, ∃ M2, Sd M M2 ∧ M2.1 2 = 0 ∧ f_X12_book N (ov mb M ρ) mb (iI (i : Nat)) = b_X12_book_136 N (ov mb M2 ρ) mb (iI (i : Nat)) (iL (w : Nat)) (iL (g : Nat)) := by
      intro ρ
      obtain ⟨M2, b', vV, vG, e1, e2, e3, e4⟩ := rfo ρ
      rcases e4 with ⟨-, h⟩ | ⟨e5, -, w', g', k1, k2, e6, e7, e8, e9⟩
      · exfalso
        rcases h with h | h | h
        · exact hp' h
        · rw [hg] at h; cases h
        · rw [hw] at h; cases h
      · refine ⟨M2, e1, by rw [e2, e5]; rfl, ?_⟩
        rw [hw] at e6
        rw [hg] at e7
        rw [e3, e8, e9, ← Sum.inr.inj e6, ← Sum.inr.inj e7]
    have lw : (1000000000000 : Int64) < iL (w : Nat) ↔ 1000000000000 < w := by rw [iL_lit 1000000000000, jL_lt (by omega) (by omega)]
    have lg : iL (g : Nat) ≤ (1000000000000 : Int64) ↔ g ≤ 1000000000000 := by rw [iL_lit 1000000000000, jL_le (by omega) (by omega)]
    have w0 : iL (w : Nat) ≤ 0 ↔ w = 0 := by rw [iL_lit 0, jL_le (by omega) (by omega)]; omega
    have gw : iL (g : Nat) ≤ iL (w : Nat) ↔ g ≤ w := jL_le (by omega) (by omega)
    have gv : iL (g : Nat) - iL (w : Nat) ≤ 0 ↔ iL (g : Nat) ≤ iL (w : Nat) := by
      rw [gw, iL_sub, show (0 : Int64) = iL 0 from rfl, iL_le ⟨by omega, by omega⟩ ⟨by decide, by decide⟩]
      omega
    have m136 : ∀ (ρ : Sto) (M2 : MS), M2.1 2 = 0 → b_X12_book_136 N (ov mb M2 ρ) mb (iI (i : Nat)) (iL (w : Nat)) (iL (g : Nat)) = (if 1000000000000 < w then b_X12_book_209 N (ov mb M2 ρ) mb (iI (i : Nat)) (iL (w : Nat)) (iL (g : Nat)) 4 mb else if g ≤ 1000000000000 then (if M2.1 46 + ((if iL (w : Nat) ≤ 0 then 0 else 1) + (if iL (g : Nat) ≤ iL (w : Nat) then 0 else 1)) ≤ 200 then b_X12_book_209 N (ov mb M2 ρ) mb (iI (i : Nat)) (iL (w : Nat)) (iL (g : Nat)) 0 mb else b_X12_book_209 N (ov mb M2 ρ) mb (iI (i : Nat)) (iL (w : Nat)) (iL (g : Nat)) 5 mb) else b_X12_book_209 N (ov mb M2 ρ) mb (iI (i : Nat)) (iL (w : Nat)) (iL (g : Nat)) 4 mb) := by
      intro ρ M2 h
      have h159 : ∀ s0 s1, b_X12_book_159 N (ov mb M2 ρ) mb (iI (i : Nat)) (iL (w : Nat)) (iL (g : Nat)) s0 s1 = (if 1000000000000 < w then b_X12_book_209 N (ov mb M2 ρ) mb (iI (i : Nat)) (iL (w : Nat)) (iL (g : Nat)) 4 mb else if g ≤ 1000000000000 then (if M2.1 46 + (s1 + s0) ≤ 200 then b_X12_book_209 N (ov mb M2 ρ) mb (iI (i : Nat)) (iL (w : Nat)) (iL (g : Nat)) 0 mb else b_X12_book_209 N (ov mb M2 ρ) mb (iI (i : Nat)) (iL (w : Nat)) (iL (g : Nat)) 5 mb) else b_X12_book_209 N (ov mb M2 ρ) mb (iI (i : Nat)) (iL (w : Nat)) (iL (g : Nat)) 4 mb) := by
        intro s0 s1
        unfold b_X12_book_159 b_X12_book_187
        dsimp only [lt_]
        simp only [oI_2, oI_46, Option.bind_some, h, if_true, lw, lg]
      unfold b_X12_book_136 b_X12_book_147
      by_cases e1 : iL (w : Nat) ≤ 0
      · by_cases e2 : iL (g : Nat) ≤ iL (w : Nat)
        · rw [if_pos e1, if_pos e2, h159, if_pos e1, if_pos e2]
        · rw [if_pos e1, if_neg e2, h159, if_pos e1, if_neg e2]
      · by_cases e2 : iL (g : Nat) ≤ iL (w : Nat)
        · rw [if_neg e1, if_pos e2, h159, if_neg e1, if_pos e2]
        · rw [if_neg e1, if_neg e2, h159, if_neg e1, if_neg e2]
    have x139 : ∀ s0 : Int32, b_X11_book_139 N τ y (A 0 0) (iI (i : Nat)) (A 29 i) (iL (w : Nat)) (iL (g : Nat) - iL (w : Nat)) s0 (A 0 0) = b_X11_book_151 N τ y (A 0 0) (iI (i : Nat)) (A 29 i) (iL (w : Nat)) (iL (g : Nat) - iL (w : Nat)) (if iL (g : Nat) ≤ iL (w : Nat) then 0 else 1) s0 (A 0 0) := by
      intro s0
      unfold b_X11_book_139
      by_cases e2 : iL (g : Nat) ≤ iL (w : Nat)
      · rw [if_pos (gv.mpr e2), if_pos e2]
      · rw [if_neg (fun w => e2 (gv.mp w)), if_neg e2]
    have m209 : ∀ (ρ : Sto) (M2 : MS) (k : Nat), k ≠ 0 → k < 100 → b_X12_book_209 N (ov mb M2 ρ) mb (iI (i : Nat)) (iL (w : Nat)) (iL (g : Nat)) (iI (k : Nat)) mb = some (0, ov mb (uI M2 8 (iI (k : Nat))) ρ) := by
      intro ρ M2 k h1 h2
      unfold b_X12_book_209
      rw [ov_isO, Option.bind_some, m_fails h2, decide_eq_true (by omega)]
      rfl
    by_cases hfit : w ≤ 1000000000000 ∧ g ≤ 1000000000000
    case neg =>
      have key : f_X11_book N σ sz (A 0 0) (iI (i : Nat)) = some (.inl 3, τ, y) := by
        rw [xrun, cl]
        by_cases e : 1000000000000 < w
        · rw [if_pos (lw.mpr e)]
        · rw [if_neg (fun z => e (lw.mp z)), if_neg (fun z => by have := lg.mp z; omega)]
      refine ag_ex (k := 4) (y := y) rfl ho ?_ cτ (by decide) (by decide) (fun ρ => ?_)
      · simp only [f_L_book, hC.xo, Option.bind_some, key, b3, bs]
        rfl
      · obtain ⟨M2, e1, e2, e3⟩ := go ρ
        refine ⟨uI M2 8 4, 0, ?_, u8_v, (rτ.sd (e1.tr Sd.u8)).up⟩
        have := m209 ρ M2 4 (by decide) (by decide)
        rw [e3, m136 _ _ e2]
        by_cases e : 1000000000000 < w
        · rw [if_pos e]; exact this
        · rw [if_neg e, if_neg (fun z => by omega)]; exact this
    obtain ⟨k, hk⟩ : ∃ k : Nat, k = (if iL (w : Nat) ≤ 0 then 0 else 1) + (if iL (g : Nat) ≤ iL (w : Nat) then 0 else 1) := ⟨_, rfl⟩
    have hk2 : k ≤ 2 := by rw [hk]; split <;> split <;> omega
    have ek : ((if iL (w : Nat) ≤ 0 then 0 else 1) + (if iL (g : Nat) ≤ iL (w : Nat) then 0 else 1) : Int32) = iI (k : Nat) := by
      rw [hk]
      by_cases e1 : iL (w : Nat) ≤ 0 <;> by_cases e2 : iL (g : Nat) ≤ iL (w : Nat)
      · rw [if_pos e1, if_pos e2, if_pos e1, if_pos e2]; rfl
      · rw [if_pos e1, if_neg e2, if_pos e1, if_neg e2]; rfl
      · rw [if_neg e1, if_pos e2, if_neg e1, if_pos e2]; rfl
      · rw [if_neg e1, if_neg e2, if_neg e1, if_neg e2]; rfl
    have key0 : f_X11_book N σ sz (A 0 0) (iI (i : Nat)) = b_X11_book_151 N τ y (A 0 0) (iI (i : Nat)) (A 29 i) (iL (w : Nat)) (iL (g : Nat) - iL (w : Nat)) (if iL (g : Nat) ≤ iL (w : Nat) then 0 else 1) (if iL (w : Nat) ≤ 0 then 0 else 1) (A 0 0) := by
      rw [xrun, cl, if_neg (fun z => by have := lw.mp z; omega), if_pos (lg.mpr hfit.2), x139, x139]
      by_cases e1 : iL (w : Nat) ≤ 0
      · rw [if_pos e1, if_pos e1]
      · rw [if_neg e1, if_neg e1]
    have rm := x_room cτ q1 q3 l1 l2 (k := k) (by omega)
    have fl19 : flags (M.2.1 26) 20 < 20 := flags_lt (v := i) (by omega) (by rw [hbk]; decide)
    by_cases h200 : c + k ≤ 200
    case neg =>
      rw [if_neg (fun z => h200 z.1)] at rm
      have key : f_X11_book N σ sz (A 0 0) (iI (i : Nat)) = some (.inl 4, τ, y) := by
        rw [key0]
        unfold b_X11_book_151
        rw [cτ.xo, Option.bind_some, ek, rm, Option.bind_some]
        rfl
      refine ag_ex (k := 5) (y := y) rfl ho ?_ cτ (by decide) (by decide) (fun ρ => ?_)
      · simp only [f_L_book, hC.xo, Option.bind_some, key, b3, bs]
        rfl
      · obtain ⟨M2, e1, e2, e3⟩ := go ρ
        refine ⟨uI M2 8 5, 0, ?_, u8_v, (rτ.sd (e1.tr Sd.u8)).up⟩
        have := m209 ρ M2 5 (by decide) (by decide)
        have e46 : M2.1 46 = iI (c : Nat) := by rw [e1.1 46 (by decide) (by decide)]; exact q2
        rw [e3, m136 _ _ e2, if_neg (by omega), if_pos hfit.2, ek, e46, jI_add, if_neg (fun z => by rw [iI_lit 200, jI_le (by omega) (by omega)] at z; omega)]
        exact this
    rw [if_pos ⟨h200, by omega⟩] at rm
    have gen : ∀ M2, Sd M M2 → LE ni c a sh S K M2 ∧ a ≤ c + bkN (M2.2.1 50) a ∧ M2.2.1 26 i ≠ 1 ∧ M2.2.1 22 i = iI (d : Nat) := by
      intro M2 hs
      have s1 := hs.1
      have s2 := hs.2.1
      have s3 := hs.2.2
      refine ⟨?_, ?_, ?_, ?_⟩
      · unfold LE at *
        rw [s1 46 (by decide) (by decide), s1 47 (by decide) (by decide), s1 51 (by decide) (by decide), s2 26 (by decide) (by decide), s2 42 (by decide) (by decide), s2 43 (by decide) (by decide), s2 44 (by decide) (by decide), s2 48 (by decide) (by decide), s2 49 (by decide) (by decide), s2 50 (by decide) (by decide), s3]
        exact hL0
      · rw [s2 50 (by decide) (by decide)]; exact hle
      · rw [s2 26 (by decide) (by decide), hbk]; decide
      · rw [s2 22 (by decide) (by decide)]; exact g5
    have ha220 : a < 220 := by omega
    have hcnt : c + (if iL (w : Nat) ≤ 0 then 0 else 1) + (if iL (g : Nat) ≤ iL (w : Nat) then 0 else 1) ≤ 200 := by omega
    have each : ∀ M2, Sd M M2 → _ := fun M2 hs => led_go (mb := mb) (N := N) (v2 := iL (w : Nat)) (v4 := iL (g : Nat)) (d := d) hC.1 (gen M2 hs).1 (gen M2 hs).2.1 hni hi ha220 hcnt gv (gen M2 hs).2.2.1 g1 (gen M2 hs).2.2.2 g4
    obtain ⟨M9, -, -, -, -, xg, -⟩ := each M Sd.rf
    have key : f_X11_book N σ sz (A 0 0) (iI (i : Nat)) = some (.inr (iI (gC c (iL (w : Nat)) (iL (g : Nat)) : Nat)), ovk A W (gK K a c d i (iL (w : Nat)) (iL (g : Nat))) τ, y) := by
      have xg' := xg τ y (if iL (g : Nat) ≤ iL (w : Nat) then 0 else 1) (if iL (w : Nat) ≤ 0 then 0 else 1)
      rw [cτ.eqk] at xg'
      rw [key0]
      exact xg' (by rw [ek]; exact rm)
    refine ag_ok (v := (iI (gC c (iL (w : Nat)) (iL (g : Nat)) : Nat)).toInt64) (y := y) rfl ho ?_ (cτ.cls (K' := gK K a c d i (iL (w : Nat)) (iL (g : Nat)))) (fun ρ => ?_)
    · simp only [f_L_book, hC.xo, Option.bind_some, key, b3, bs]
    · obtain ⟨M2, e1, e2, e3⟩ := go ρ
      obtain ⟨M', y1, y2, y3, y4, -, y5⟩ := each M2 e1
      have e46 : M2.1 46 = iI (c : Nat) := by rw [e1.1 46 (by decide) (by decide)]; exact q2
      refine ⟨M', _, ?_, y4, rfl, ?_⟩
      · rw [e3, m136 _ _ e2, if_neg (by omega), if_pos hfit.2, ek, e46, jI_add, if_pos (by rw [iI_lit 200, jI_le (by omega) (by omega)]; omega)]
        exact y5 ρ
      · exact Rel.led (((rτ.sd e1).up).vk (fun p u s h => cτ.vcls h)) y2 y3 y1
