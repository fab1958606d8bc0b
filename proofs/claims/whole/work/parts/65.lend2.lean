/-! ===== lend ===== -/
/-- only the loan was written -/
theorem Rel.loan {n ni : Nat} {A : AM} {K K' : KS} {M M' : MS} {σ : Sto} (h : Rel n ni A K M σ) (t1 : ∀ g, g ≠ 13 → K'.1 g = K.1 g) (t2 : ∀ g, g < 13 ∨ 16 < g → K'.2.1 g = K.2.1 g) (t3 : K'.2.2 = K.2.2) (s1 : ∀ k, k ≠ 2 → k ≠ 8 → k ≠ 41 → M'.1 k = M.1 k) (s2 : M'.2.1 = M.2.1) (s3 : ∀ k, k < 35 ∨ 40 < k → M'.2.2 k = M.2.2 k) (hL : RLo K' M') : Rel n ni A K' M' σ := by
  obtain ⟨a, b, c, d, e, f, g, i, j⟩ := h
  refine ⟨?_, ?_, ?_, ?_, ?_, ?_, ?_, hL, ?_⟩
  · unfold RV MV at *
    rw [s2, s3 3 (by decide), t3]
    exact a
  · unfold RT at *
    rw [s1 7 (by decide) (by decide) (by decide), s2, t1 2 (by decide), t1 3 (by decide)]
    exact b
  · unfold RC at *
    rw [s2, t1 25 (by decide)]
    exact c
  · unfold RR at *
    rw [s2, s3 12 (by decide), t3]
    exact d
  · unfold RS StT at *
    rw [s1 20 (by decide) (by decide) (by decide), s1 21 (by decide) (by decide) (by decide), s2, t1 26 (by decide), t1 27 (by decide), t1 28 (by decide), t3]
    exact e
  · unfold RN at *
    rw [s1 29 (by decide) (by decide) (by decide), s2, s3 27 (by decide), t1 0 (by decide), t1 29 (by decide), t1 31 (by decide), t2 30 (by decide), t3]
    exact f
  · unfold RW at *
    rw [s1 33 (by decide) (by decide) (by decide), s1 34 (by decide) (by decide) (by decide), s2, s3 31 (by decide), t1 9 (by decide), t1 10 (by decide), t2 11 (by decide), t2 9 (by decide)]
    exact g
  · unfold RE LE at *
    rw [s1 46 (by decide) (by decide) (by decide), s1 47 (by decide) (by decide) (by decide), s1 51 (by decide) (by decide) (by decide), s2, s3 45 (by decide), t1 17 (by decide), t1 18 (by decide), t1 19 (by decide), t1 21 (by decide), t1 22 (by decide), t1 23 (by decide), t1 24 (by decide), t2 20 (by decide)]
    exact j
theorem fK_1 {r p x c : Nat} {K : KS} : (fK r p x K c).1 = K.1 ∧ (fK r p x K c).2.2 = K.2.2 ∧ ∀ g, g < 14 ∨ 16 < g → (fK r p x K c).2.1 g = K.2.1 g := by
  induction c with
  | zero => exact ⟨rfl, rfl, fun _ _ => rfl⟩
  | succ c ih =>
    refine ⟨ih.1, ih.2.1, fun g hg => ?_⟩
    rw [← ih.2.2 g hg]
    funext j k
    show (kL (kL (kL (fK r p x K c) 14 0 c _) 15 0 c _) 16 0 c _).2.1 g j k = _
    rw [kL_v, if_neg (by omega), kL_v, if_neg (by omega), kL_v, if_neg (by omega)]
theorem fK_v {r p x c : Nat} {K : KS} {i : Nat} (hi : i < c) : (fK r p x K c).2.1 14 0 i = iL (mo r (ow r p x i) : Nat) ∧ (fK r p x K c).2.1 15 0 i = iL (pd r p (ow r p x i) : Nat) ∧ (fK r p x K c).2.1 16 0 i = iL (ow r p x (i + 1) : Nat) := by
  induction c with
  | zero => omega
  | succ c ih =>
    simp only [fK, kL_v, Nat.reduceEqDiff, false_and, true_and, if_false]
    by_cases e : i = c
    · subst e
      simp
    · simp only [if_neg e]
      exact ih (by omega)
theorem gM_1 {r p x c : Nat} {M : MS} : (gM r p x M c).1 = M.1 ∧ (gM r p x M c).2.1 = M.2.1 ∧ ∀ k, k < 38 ∨ 40 < k → (gM r p x M c).2.2 k = M.2.2 k := by
  induction c with
  | zero => exact ⟨rfl, rfl, fun _ _ => rfl⟩
  | succ c ih =>
    refine ⟨ih.1, ih.2.1, fun g hg => ?_⟩
    rw [← ih.2.2 g hg]
    funext j
    show (uL (uL (uL (gM r p x M c) 38 c _) 39 c _) 40 c _).2.2 g j = _
    rw [uL_v, if_neg (by omega), uL_v, if_neg (by omega), uL_v, if_neg (by omega)]
theorem gM_v {r p x c : Nat} {M : MS} {i : Nat} (hi : i < c) : (gM r p x M c).2.2 38 i = iL (mo r (ow r p x i) : Nat) ∧ (gM r p x M c).2.2 39 i = iL (pd r p (ow r p x i) : Nat) ∧ (gM r p x M c).2.2 40 i = iL (ow r p x (i + 1) : Nat) := by
  induction c with
  | zero => omega
  | succ c ih =>
    simp only [gM, uL_v, Nat.reduceEqDiff, false_and, true_and, if_false]
    by_cases e : i = c
    · subst e
      simp
    · simp only [if_neg e]
      exact ih (by omega)
theorem cM_1 {c : Nat} {M : MS} : (cM M c).1 = M.1 ∧ (cM M c).2.1 = M.2.1 ∧ ∀ k, k < 35 ∨ 37 < k → (cM M c).2.2 k = M.2.2 k := by
  induction c with
  | zero => exact ⟨rfl, rfl, fun _ _ => rfl⟩
  | succ c ih =>
    refine ⟨ih.1, ih.2.1, fun g hg => ?_⟩
    rw [← ih.2.2 g hg]
    funext j
    show (uL (uL (uL (cM M c) 35 c _) 36 c _) 37 c _).2.2 g j = _
    rw [uL_v, if_neg (by omega), uL_v, if_neg (by omega), uL_v, if_neg (by omega)]
theorem cM_v {c : Nat} {M : MS} {i : Nat} (hi : i < c) : (cM M c).2.2 35 i = M.2.2 38 i ∧ (cM M c).2.2 36 i = M.2.2 39 i ∧ (cM M c).2.2 37 i = M.2.2 40 i := by
  induction c with
  | zero => omega
  | succ c ih =>
    simp only [cM, uL_v, Nat.reduceEqDiff, false_and, true_and, if_false]
    by_cases e : i = c
    · subst e
      simp only [if_true]
      rw [(cM_1 (c := i) (M := M)).2.2 38 (by decide), (cM_1 (c := i) (M := M)).2.2 39 (by decide), (cM_1 (c := i) (M := M)).2.2 40 (by decide)]
      exact ⟨rfl, rfl, rfl⟩
    · simp only [if_neg e]
      exact ih (by omega)
theorem p_lend {xb mb ob N : Nat} (hN : 1000 ≤ N) : A_lend (I0 xb mb ob) N xb mb ob := by
  intro v1 v3 v4
  refine ag_in (fun n σ sz ni A W K M hn hA ho hC hR hF => ?_)
  subst hA
  have bb2 : ∀ {α β γ : Type} (x : α) (y : β) (f : α → β → Option γ), b2 (some (x, y)) f = f x y := fun _ _ _ => rfl
  have no : ∀ (ρ : Sto) (k : Nat) (v1 : Int64) (v3 : Int32) (v4 : Int64), k ≠ 0 → k < 100 → b_X12_lend_68 N (ov mb M ρ) mb v1 v3 v4 (iI (k : Nat)) mb = some (0, ov mb (uI M 8 (iI (k : Nat))) ρ) := by
    intro ρ k v1 v3 v4 h1 h2
    unfold b_X12_lend_68
    rw [ov_isO, Option.bind_some, m_fails h2, decide_eq_true (by omega)]
    rfl
  have am : ∀ v : Int64, (f_X11_checkRange v 1 1000000000000 = some (.inl 1) ∧ f_X12_in v 1 1000000000000 = some 0) ∨ ∃ x : Nat, v = iL (x : Nat) ∧ 1 ≤ x ∧ x ≤ 1000000000000 ∧ f_X11_checkRange v 1 1000000000000 = some (.inr ()) ∧ f_X12_in v 1 1000000000000 = some 1 := by
    intro v
    obtain ⟨k, k1, k2, rfl⟩ := iL_of v
    rw [x_range (v := k) (a := 1) (b := 1000000000000) (a' := 1) (b' := 1000000000000) rfl rfl ⟨k1, k2⟩ ⟨by decide, by decide⟩ ⟨by decide, by decide⟩, m_range (v := k) (a := 1) (b := 1000000000000) (a' := 1) (b' := 1000000000000) rfl rfl ⟨k1, k2⟩ ⟨by decide, by decide⟩ ⟨by decide, by decide⟩]
    by_cases h : 1 ≤ k ∧ k ≤ 1000000000000
    · rw [if_pos h, decide_eq_true h]
      obtain ⟨kn, rfl⟩ : ∃ kn : Nat, k = kn := ⟨k.toNat, by omega⟩
      exact Or.inr ⟨kn, rfl, by omega, by omega, rfl, rfl⟩
    · rw [if_neg h, decide_eq_false h]; exact Or.inl ⟨rfl, rfl⟩
  have bad : ∀ ρ v1 v3 v4, b_X12_lend_39 N (ov mb M ρ) mb v1 v3 v4 = some (0, ov mb (uI M 8 1) ρ) := by
    intro ρ v1 v3 v4
    unfold b_X12_lend_39 b_X12_lend_40
    rw [if_pos rfl]
    exact no ρ 1 _ _ _ (by decide) (by decide)
  rcases am v1 with ⟨a1, a2⟩ | ⟨x, rfl, hx1, hx, a1, a2⟩
  · refine ag_no (k := 1) (y := sz) rfl ho hC hR ?_ (by decide) (by decide) (fun ρ => ⟨uI M 8 1, 0, ?_, Sd.u8, u8_v⟩)
    · simp only [f_L_lend, f_X11_lend, hC.xo, Option.bind_some, a1, bs, b2]
      rfl
    · unfold f_X12_lend
      rw [a2, Option.bind_some, if_pos rfl]
      exact bad _ _ _ _
  rcases ra_i (v := v3) 0 9999 (by decide) (by decide) (a' := 0) (b' := 9999) rfl rfl with ⟨d1, d2⟩ | ⟨r, rfl, -, hr, d1, d2⟩
  · refine ag_no (k := 1) (y := sz) rfl ho hC hR ?_ (by decide) (by decide) (fun ρ => ⟨uI M 8 1, 0, ?_, Sd.u8, u8_v⟩)
    · simp only [f_L_lend, f_X11_lend, hC.xo, Option.bind_some, a1, d1, bs, b2]
      rfl
    · unfold f_X12_lend
      rw [a2, Option.bind_some, if_neg (by decide), d2, Option.bind_some, if_pos rfl]
      exact bad _ _ _ _
  rcases am v4 with ⟨e1, e2⟩ | ⟨p, rfl, hp1, hp, e1, e2⟩
  · refine ag_no (k := 1) (y := sz) rfl ho hC hR ?_ (by decide) (by decide) (fun ρ => ⟨uI M 8 1, 0, ?_, Sd.u8, u8_v⟩)
    · simp only [f_L_lend, f_X11_lend, hC.xo, Option.bind_some, a1, d1, e1, bs, b2]
      rfl
    · unfold f_X12_lend
      rw [a2, Option.bind_some, if_neg (by decide), d2, Option.bind_some, if_neg (by decide), e2, Option.bind_some, if_pos rfl]
      exact bad _ _ _ _
  have hm2 := mo_le hx hr
  have lt_m : iL (mo r x : Nat) < iL (p : Nat) ↔ mo r x < p := jL_lt (by omega) (by omega)
  have mrun : ∀ ρ, f_X12_lend N (ov mb M ρ) mb (iL (x : Nat)) (iI (r : Nat)) (iL (p : Nat)) = if mo r x < p then b_X12_lend_68 N (ov mb M ρ) mb (iL (x : Nat)) (iI (r : Nat)) (iL (p : Nat)) 0 mb else b_X12_lend_68 N (ov mb M ρ) mb (iL (x : Nat)) (iI (r : Nat)) (iL (p : Nat)) 2 mb := by
    intro ρ
    unfold f_X12_lend b_X12_lend_40
    rw [a2, Option.bind_some, if_neg (by decide), d2, Option.bind_some, if_neg (by decide), e2, Option.bind_some, if_neg (by decide), if_neg (by decide), m_month hx hr, Option.bind_some]
    by_cases h : mo r x < p
    · rw [if_pos (lt_m.mpr h), if_pos h]
    · rw [if_neg (fun w => h (lt_m.mp w)), if_neg h]
  by_cases hm : mo r x < p
  case neg =>
    refine ag_no (k := 2) (y := sz) rfl ho hC hR ?_ (by decide) (by decide) (fun ρ => ⟨uI M 8 2, 0, ?_, Sd.u8, u8_v⟩)
    · simp only [f_L_lend, f_X11_lend, hC.xo, Option.bind_some, a1, d1, e1, bs, b2, x_month hx hr]
      rw [if_neg (fun w => hm (lt_m.mp w))]
      rfl
    · rw [mrun, if_neg hm]
      exact no ρ 2 _ _ _ (by decide) (by decide)
  obtain ⟨cn1, cn2⟩ := x_count (N := N) hx hr hp (by omega : mo r x ≤ p) (by omega)
  have xpre : ∀ (σ' : Sto) (cnt : Nat), f_X4_countFor N (iL (x : Nat)) (iI (r : Nat)) (iL (p : Nat)) = some (.inr (iI (cnt : Nat))) → f_X11_lend N σ' (A 0 0) (iL (x : Nat)) (iI (r : Nat)) (iL (p : Nat)) = if iI (cnt : Nat) ≤ 120 then ((gR σ' (A 0 0) 10 9).bind fun p18 => (isO σ' p18 4).bind fun _ => b2 (f_X4_fill N σ' p18 (iL (x : Nat)) (iI (r : Nat)) (iL (p : Nat))) fun u22 τ21 => bs u22 (fun j23 => some (.inl j23, τ21)) fun x20 => some (.inr x20, τ21)) else some (.inl 4, σ') := by
    intro σ' cnt hcnt
    unfold f_X11_lend
    rw [a1, Option.bind_some]
    dsimp only [bs]
    rw [d1, Option.bind_some]
    dsimp only
    rw [e1, Option.bind_some]
    dsimp only
    rw [x_month hx hr, Option.bind_some]
    dsimp only
    rw [if_pos (lt_m.mpr hm), hcnt, Option.bind_some]
  rcases ow_cases r p x with ⟨c, hc, h0, hi⟩ | hall
  · have key : f_X11_lend N (ovk A W K σ) (A 0 0) (iL (x : Nat)) (iI (r : Nat)) (iL (p : Nat)) = some (.inr (iI (c : Nat)), ovk A W (kI (kL (fK r p x K c) 13 0 4 (iL (x : Nat))) 13 0 3 (iI (c : Nat))) σ) := by
      rw [xpre _ c (cn1 c hc h0 hi), if_pos (by rw [iI_lit 120, jI_le (by omega) (by omega)]; exact hc), xR_0_9 hC.1, Option.bind_some, xO_13 hC.1, Option.bind_some, x_fill hC.1 hx hr hp (by omega) hc h0 hi (by omega), bb2]
      rfl
    rw [hC.eqk] at key
    obtain ⟨K', hK'⟩ : ∃ K', K' = kI (kL (fK r p x K c) 13 0 4 (iL (x : Nat))) 13 0 3 (iI (c : Nat)) := ⟨_, rfl⟩
    rw [← hK'] at key
    obtain ⟨M1, hM1⟩ : ∃ M1, M1 = uI (uI (gM r p x (uI M 8 0) c) 8 0) 41 (iI (c : Nat)) := ⟨_, rfl⟩
    refine ag_ok (v := (iI (c : Nat)).toInt64) (y := sz) rfl ho ?_ (hC.cls (K' := K')) (fun ρ => ⟨cM M1 c, iI (c : Nat), ?_, ?_, rfl, ?_⟩)
    · simp only [f_L_lend, hC.xo, Option.bind_some, key, bb2, bs]
    · rw [mrun, if_pos hm]
      unfold b_X12_lend_68
      rw [ov_isO, Option.bind_some, ff0, bb2, if_pos rfl, m_table hx hr hp (by omega) hc hi (Or.inl h0) (by omega)]
      unfold b_X12_lend_174 b_X12_lend_187
      rw [h0, if_pos (by decide), ov_isO, Option.bind_some, ff0, bb2, if_pos rfl, oP_41, Option.bind_some, ← hM1]
      exact m_copy hc (by omega)
    · rw [cM_1.1, hM1, uI_v, if_neg (by decide)]; exact u8_v
    · have f1 := fK_1 (r := r) (p := p) (x := x) (c := c) (K := K)
      have g1 := gM_1 (r := r) (p := p) (x := x) (c := c) (M := uI M 8 0)
      have c1 := cM_1 (c := c) (M := M1)
      have k4 : K'.2.1 13 0 4 = iL (x : Nat) := by rw [hK', kI_o, kL_v, if_pos ⟨rfl, rfl, rfl⟩]
      have k14 : ∀ g, 14 ≤ g → K'.2.1 g = (fK r p x K c).2.1 g := fun g hg => by
        funext j k
        rw [hK', kI_o, kL_v, if_neg (by omega)]
      have owk : ∀ i, i ≤ c → owedB K' i = iL (ow r p x i : Nat) := by
        intro i hi'
        cases i with
        | zero => unfold owedB; rw [k4]; rfl
        | succ i => unfold owedB; rw [k14 16 (by decide)]; exact (fK_v (by omega)).2.2
      refine Rel.loan ((hR.up).vk (fun p u s h => hC.vcls h)) (fun g hg => ?_) (fun g hg => ?_) ?_ (fun k h1 h2 h3 => ?_) ?_ (fun k hk => ?_) ⟨c, hc, ?_, ?_, fun i hi' => ⟨?_, ?_, ?_⟩, fun i hi' => ?_, ?_⟩
      · funext j k
        rw [hK', kI_v, if_neg (fun w => hg w.1), kL_o, f1.1]
      · rw [← f1.2.2 g (by omega)]
        funext j k
        rw [hK', kI_o, kL_v, if_neg (by omega)]
      · rw [hK', kI_o, kL_r, f1.2.1]
      · rw [c1.1, hM1, uI_v, if_neg h3, uI_v, if_neg h2, g1.1, uI_v, if_neg h2]
      · rw [c1.2.1, hM1, uI_o, uI_o, g1.2.1, uI_o]
      · rw [c1.2.2 k (by omega), hM1, uI_o, uI_o, g1.2.2 k (by omega), uI_o]
      · rw [hK', kI_v, if_pos ⟨rfl, rfl, rfl⟩]
      · rw [c1.1, hM1, uI_v, if_pos rfl]
      · rw [k14 14 (by decide), (fK_v hi').1, (cM_v hi').1, hM1, uI_o, uI_o, (gM_v hi').1]
      · rw [k14 15 (by decide), (fK_v hi').2.1, (cM_v hi').2.1, hM1, uI_o, uI_o, (gM_v hi').2.1]
      · rw [k14 16 (by decide), (fK_v hi').2.2, (cM_v hi').2.2, hM1, uI_o, uI_o, (gM_v hi').2.2]
      · rw [k14 16 (by decide), k14 15 (by decide), (fK_v hi').2.2, (fK_v hi').2.1, owk i (by omega), iL_subN pd_le]
        rfl
      · rw [owk c (Nat.le_refl _), h0]; rfl
  · have key : f_X11_lend N σ (A 0 0) (iL (x : Nat)) (iI (r : Nat)) (iL (p : Nat)) = some (.inl 4, σ) := by
      rw [xpre _ 121 (cn2 hall), if_neg (by decide)]
    refine ag_ex (k := 3) (y := sz) rfl ho ?_ hC (by decide) (by decide) (fun ρ => ⟨uI (gM r p x (uI M 8 0) 120) 8 3, 0, ?_, u8_v, ?_⟩)
    · simp only [f_L_lend, hC.xo, Option.bind_some, key, bb2, bs]
      rfl
    · have h120 := hall 120 (Nat.le_refl _)
      have hle := ow_le (r := r) (p := p) (x := x) (n := 120)
      rw [mrun, if_pos hm]
      unfold b_X12_lend_68
      rw [ov_isO, Option.bind_some, ff0, bb2, if_pos rfl, m_table (c := 120) hx hr hp (by omega) (Nat.le_refl _) (fun i hi => hall i (by omega)) (Or.inr rfl) (by omega)]
      unfold b_X12_lend_174 b_X12_lend_187
      rw [if_neg (fun w => by rw [iL_lit 0, jL_le (by omega) (by omega)] at w; omega), ov_isO, Option.bind_some, ff3, bb2, if_neg (by decide)]
    · have g1 := gM_1 (r := r) (p := p) (x := x) (c := 120) (M := uI M 8 0)
      obtain ⟨z1, z2, z3, z4, z5, z6, z7, ⟨lc, o1, o2, o3, o4, o5, o6⟩, z9⟩ := hR.up
      refine Rel.loan hR.up (fun _ _ => rfl) (fun _ _ => rfl) rfl (fun k h1 h2 h3 => ?_) ?_ (fun k hk => ?_) ⟨lc, o1, o2, ?_, fun i hi => ?_, o5, o6⟩
      · rw [uI_v, if_neg h2, g1.1, uI_v, if_neg h2]
      · rw [uI_o, g1.2.1, uI_o]
      · rw [uI_o, g1.2.2 k (by omega), uI_o]
      · rw [uI_v, if_neg (by decide), g1.1, uI_v, if_neg (by decide)]; exact o3
      · rw [uI_o, g1.2.2 35 (by decide), g1.2.2 36 (by decide), g1.2.2 37 (by decide), uI_o]
        exact o4 i hi
