/-! ===== lost ===== -/
theorem x_checkRate {mb ni : Nat} {A : AM} {W : WM} {K : KS} {M : MS} {σ : Sto} (hC : Cf mb ni A W K M σ) {c o : Nat} (hc : c < 4) (ho : o < 4) : f_X11_checkRate σ (A 0 0) (iI (c : Nat)) (iI (o : Nat)) = some (if (K.2.2.1 5 (4 * c + o)).isSome = true then .inr () else .inl 2) := by
  unfold f_X11_checkRate
  rw [hC.xo, Option.bind_some, x_hasRate hC hc ho, Option.bind_some]
  cases (K.2.2.1 5 (4 * c + o)).isSome <;> rfl
theorem Rt.vk {K : KS} {M M' : MS} {σ τ : Sto} {i : Nat} {u s : Int} (h : Rt K M σ i u s) (hv : VK σ τ) (hs : Sd M M') : Rt K M' τ i u s := by
  obtain ⟨p, a, b, c, d, e, f⟩ := h
  refine ⟨p, a, hv _ _ _ b, c, d, ?_, ?_⟩
  · rw [hs.2.2]; exact e
  · rw [hs.2.1 13 (by decide) (by decide)]; exact f
theorem Cu.sd {K : KS} {M M' : MS} {c d co : Nat} {m : Int32} (h : Cu K M c d co m) (hs : Sd M M') : Cu K M' c d co m := by
  unfold Cu at *
  rw [hs.2.1 9 (by decide) (by decide), hs.2.1 10 (by decide) (by decide), hs.2.1 11 (by decide) (by decide)]
  exact h
theorem p_lost {xb mb ob N : Nat} (hN : 1000 ≤ N) : A_lost (I0 xb mb ob) N xb mb ob := by
  intro v1 v2 v3
  refine ag_in (fun n σ sz ni A W K M hn hA ho hC hR hF => ?_)
  subst hA
  have bb2 : ∀ {α β γ : Type} (x : α) (y : β) (f : α → β → Option γ), b2 (some (x, y)) f = f x y := fun _ _ _ => rfl
  have i0 : ∀ v : Int32, ∃ a, f_X12_isCurrency v = some a := by
    intro v
    rcases cu_cases (v := v) with ⟨-, h⟩ | ⟨k, -, -, -, h⟩ <;> exact ⟨_, h⟩
  have j0 : ∀ v : Int64, ∃ a, f_X12_in v 0 1000000000000 = some a := by
    intro v
    rcases mo_cases (v := v) with ⟨-, h⟩ | ⟨k, -, -, -, h⟩ <;> exact ⟨_, h⟩
  obtain ⟨q2, hq2⟩ := i0 v2
  obtain ⟨q3, hq3⟩ := j0 v3
  have l40 : ∀ (ρ : Sto) (c : Nat), c ≠ 0 → c < 100 → b_X12_lost_40 N (ov mb M ρ) mb v1 v2 v3 (iI (c : Nat)) mb = some (0, ov mb (uI M 8 (iI (c : Nat))) ρ) := by
    intro ρ c h1 h2
    unfold b_X12_lost_40
    rw [ov_isO, Option.bind_some, m_fails h2, decide_eq_true (by omega)]
    rfl
  have no : ∀ (ρ : Sto) (c : Nat), c ≠ 0 → c < 100 → f_X12_noMoney (ov mb M ρ) mb v1 v2 v3 = some (iI (c : Nat)) → f_X12_lost N (ov mb M ρ) mb v1 v2 v3 = some (0, ov mb (uI M 8 (iI (c : Nat))) ρ) := by
    intro ρ c h1 h2 h3
    unfold f_X12_lost
    rw [ov_isO, Option.bind_some, h3, Option.bind_some, if_neg (fun w => by rw [iI_lit 0, jI_le (by omega) (by omega)] at w; omega)]
    exact l40 ρ c h1 h2
  rcases cu_cases (v := v1) with ⟨c1, c2⟩ | ⟨c, e1, hc, c1, c2⟩
  · refine ag_no (k := 1) (y := sz) rfl ho hC hR ?_ (by decide) (by decide) (fun ρ => ⟨uI M 8 1, 0, ?_, Sd.u8, u8_v⟩)
    · simp only [f_L_lost, f_X11_lost, f_X11_checkChange, hC.xo, Option.bind_some, c1, bs, b3]
      rfl
    · exact no ρ 1 (by decide) (by decide) (by rw [m_noMoney c2 hq2 hq3]; rfl)
  rcases cu_cases (v := v2) with ⟨o1, o2⟩ | ⟨o, e2, hoo, o1, o2⟩
  · refine ag_no (k := 1) (y := sz) rfl ho hC hR ?_ (by decide) (by decide) (fun ρ => ⟨uI M 8 1, 0, ?_, Sd.u8, u8_v⟩)
    · simp only [f_L_lost, f_X11_lost, f_X11_checkChange, hC.xo, Option.bind_some, c1, o1, bs, b3]
      rfl
    · exact no ρ 1 (by decide) (by decide) (by rw [m_noMoney c2 o2 hq3]; rfl)
  by_cases hv : v1 = v2
  · refine ag_no (k := 2) (y := sz) rfl ho hC hR ?_ (by decide) (by decide) (fun ρ => ⟨uI M 8 2, 0, ?_, Sd.u8, u8_v⟩)
    · simp only [f_L_lost, f_X11_lost, f_X11_checkChange, f_X11_checkUnlike, hC.xo, Option.bind_some, c1, o1, if_pos hv, bs, b3]
      rfl
    · exact no ρ 2 (by decide) (by decide) (by rw [m_noMoney c2 o2 hq3, if_neg (by decide), if_neg (by decide), if_pos hv]; rfl)
  rcases mo_cases (v := v3) with ⟨m1, m2⟩ | ⟨x, e3, hx, m1, m2⟩
  · refine ag_no (k := 2) (y := sz) rfl ho hC hR ?_ (by decide) (by decide) (fun ρ => ⟨uI M 8 2, 0, ?_, Sd.u8, u8_v⟩)
    · simp only [f_L_lost, f_X11_lost, f_X11_checkChange, f_X11_checkUnlike, hC.xo, Option.bind_some, c1, o1, if_neg hv, m1, bs, b3]
      rfl
    · exact no ρ 2 (by decide) (by decide) (by rw [m_noMoney c2 o2 m2, if_neg (by decide), if_neg (by decide), if_neg hv]; rfl)
  have e4 : (4 : Int32) * v1 + v2 = iI ((4 * c + o : Nat) : Int) := by rw [e1, e2, iI_lit 4, jI_mul, jI_add]
  have e4' : v1 * 4 + v2 = iI ((4 * c + o : Nat) : Int) := by rw [e1, e2, iI_lit 4, jI_mul, jI_add, show c * 4 + o = 4 * c + o by omega]
  have e5 : (4 : Int32) * v2 + v1 = iI ((4 * o + c : Nat) : Int) := by rw [e1, e2, iI_lit 4, jI_mul, jI_add]
  have i16 : inB (iI ((4 * c + o : Nat) : Int)) 16 = true := inN (by omega) (by decide)
  have k16 : (iI ((4 * c + o : Nat) : Int)).toNatClampNeg = 4 * c + o := clN (by omega)
  have i16' : inB (iI ((4 * o + c : Nat) : Int)) 16 = true := inN (by omega) (by decide)
  have k16' : (iI ((4 * o + c : Nat) : Int)).toNatClampNeg = 4 * o + c := clN (by omega)
  have nm : ∀ ρ, f_X12_noMoney (ov mb M ρ) mb v1 v2 v3 = if M.2.2 12 (4 * c + o) = 0 then some 3 else some 0 := by
    intro ρ
    rw [m_noMoney c2 o2 m2, if_neg (by decide), if_neg (by decide), if_neg hv, if_neg (by decide), e4, if_pos i16, k16, Option.bind_some]
  rcases ra_cases hR (i := 4 * o + c) (by omega) with ⟨b1, b2'⟩ | ⟨u', s', hr', b2'⟩
  · have lo : ∀ ρ, f_X12_lost N (ov mb M ρ) mb v1 v2 v3 = some (0, ov mb (uI M 8 3) ρ) := by
      intro ρ
      by_cases h0 : M.2.2 12 (4 * c + o) = 0
      · exact no ρ 3 (by decide) (by decide) (by rw [nm, if_pos h0]; rfl)
      · unfold f_X12_lost
        rw [ov_isO, Option.bind_some, nm, if_neg h0, Option.bind_some, if_pos (by decide)]
        simp only [oR_12, oA_12, Option.bind_some, e5, i16', k16', if_true, b2']
        exact l40 ρ 3 (by decide) (by decide)
    refine ag_no (k := 3) (y := sz) rfl ho hC hR ?_ (by decide) (by decide) (fun ρ => ⟨uI M 8 3, 0, lo ρ, Sd.u8, u8_v⟩)
    have ck : f_X11_checkRate σ (A 0 0) v2 v1 = some (.inl 2) := by
      rw [e1, e2, x_checkRate hC hoo hc, b1]; rfl
    simp only [f_L_lost, f_X11_lost, f_X11_checkChange, f_X11_checkUnlike, hC.xo, Option.bind_some, c1, o1, if_neg hv, m1, bs, b3, ck]
    rfl
  have ck : f_X11_checkRate σ (A 0 0) v2 v1 = some (.inr ()) := by
    obtain ⟨p', p1', -⟩ := hr'
    rw [e1, e2, x_checkRate hC hoo hc, p1']; rfl
  rcases ra_cases hR (i := 4 * c + o) (by omega) with ⟨r1, r2⟩ | ⟨u, s, hr, r2⟩
  · refine ag_no (k := 3) (y := sz) rfl ho hC hR ?_ (by decide) (by decide) (fun ρ => ⟨uI M 8 3, 0, ?_, Sd.u8, u8_v⟩)
    · have q0 := xR_0_3 (K := K) (σ := σ) hC.1
      have q1 := xA_5 (K := K) (σ := σ) (i := iI ((4 * c + o : Nat) : Int)) hC.1
      rw [hC.eqk] at q0 q1
      rw [if_pos i16, k16] at q1
      have q1' : aQ σ (A 5 0) 4 (iI ((4 * c + o : Nat) : Int)) = some none := q1.trans (congrArg some r1)
      simp only [f_L_lost, f_X11_lost, f_X11_checkChange, f_X11_checkUnlike, f_X11_changed, hC.xo, Option.bind_some, c1, o1, if_neg hv, m1, bs, b3, ck, q0, e4', q1', oq]
      rfl
    · exact no ρ 3 (by decide) (by decide) (by rw [nm, if_pos r2]; rfl)
  subst e1
  subst e2
  subst e3
  obtain ⟨dc, cc, mc, k1⟩ := hR.2.2.1 c hc
  obtain ⟨do_, co, mo, k2⟩ := hR.2.2.1 o hoo
  obtain ⟨τ, y, t1, t2, t3⟩ := x_changed hC hF hc hoo (show x ≤ 999999999999999999 by omega) k1 k2 hr
  have cτ := hC.mk_ hF t1
  have vτ : VK σ τ := fun p u s hv => hv.of (t1 p (hv.lt hF))
  have rτ : Rel n ni A K M τ := hR.vk vτ
  have hrτ' : Rt K M τ (4 * o + c) u' s' := hr'.vk vτ Sd.rf
  obtain ⟨p, p1, p2, p3, p4, p5, p6⟩ := id hr
  obtain ⟨p', p1', p2', p3', p4', p5', p6'⟩ := id hr'
  -- the reference: there
  have there : ∀ ρ, ∃ M1, Sd M M1 ∧ M1.1 8 = 0 ∧ ((spX (x * u.natAbs) ((do_ : Int) - dc - s) mo = .inl 3 ∧ ∃ M2, Sd M M2 ∧ M2.1 8 = 4 ∧ f_X12_lost N (ov mb M ρ) mb (iI (c : Nat)) (iI (o : Nat)) (iL (x : Nat)) = some (0, ov mb M2 ρ)) ∨ ∃ v : Nat, v ≤ 999999999999999999 ∧ spX (x * u.natAbs) ((do_ : Int) - dc - s) mo = .inr (iL (v : Nat)) ∧ M1.1 2 = 0 ∧ f_X12_lost N (ov mb M ρ) mb (iI (c : Nat)) (iI (o : Nat)) (iL (x : Nat)) = b2 (f_X12_changed N (ov mb M1 ρ) mb (iI (o : Nat)) (iI (c : Nat)) (iL (v : Nat))) fun x6 τ7 => (gI τ7 mb 11 2).bind fun x8 => if x8 = 0 then b_X12_lost_106 N τ7 (iL (x : Nat)) x6 0 mb else b_X12_lost_106 N τ7 (iL (x : Nat)) x6 4 mb) := by
    intro ρ
    obtain ⟨M1, a1, a2⟩ := m_changed (mb := mb) (K := K) (M := uI (uI M 8 0) 2 0) (ρ := ρ) (N := N) hc hoo (show x ≤ 999999999999999999 by omega) k1 k2 p3 p4 p5 p6 (by rw [uI_v, if_pos rfl]) (by omega)
    have S1 : Sd M M1 := (Sd.u8.tr Sc.ui.sd).tr a1.sd
    have run : f_X12_lost N (ov mb M ρ) mb (iI (c : Nat)) (iI (o : Nat)) (iL (x : Nat)) = b2 (f_X12_changed N (ov mb (uI (uI M 8 0) 2 0) ρ) mb (iI (c : Nat)) (iI (o : Nat)) (iL (x : Nat))) fun x7 τ8 => (gI τ8 mb 11 2).bind fun x9 => if x9 = 0 then b_X12_lost_75 N τ8 mb (iI (c : Nat)) (iI (o : Nat)) (iL (x : Nat)) x7 0 mb else b_X12_lost_75 N τ8 mb (iI (c : Nat)) (iI (o : Nat)) (iL (x : Nat)) x7 4 mb := by
      unfold f_X12_lost
      rw [ov_isO, Option.bind_some, nm, if_neg r2, Option.bind_some, if_pos (by decide)]
      simp only [oR_12, oA_12, Option.bind_some, e5, i16', k16', if_true, if_neg b2']
      unfold b_X12_lost_40
      rw [ov_isO, Option.bind_some, ff0, bb2, if_pos rfl, oP_2, Option.bind_some, ov_isO, Option.bind_some]
    refine ⟨uI M1 8 0, S1.tr Sd.u8, u8_v, ?_⟩
    rcases a2 with ⟨h1, h2, h3⟩ | ⟨v, hv9, h1, h2, h3⟩
    · refine Or.inl ⟨h1, uI M1 8 4, S1.tr Sd.u8, u8_v, ?_⟩
      rw [run, h3, bb2, oI_2, Option.bind_some, h2, if_neg (by decide)]
      unfold b_X12_lost_75
      simp only [ov_isO, Option.bind_some, ff4, b2]
      rfl
    · refine Or.inr ⟨v, hv9, h1, by rw [uI_v, if_neg (by decide)]; exact h2, ?_⟩
      rw [run, h3, bb2, oI_2, Option.bind_some, h2, if_pos rfl]
      unfold b_X12_lost_75
      rw [ov_isO, Option.bind_some, ff0, bb2, if_pos rfl, ov_isO, Option.bind_some]
  have cl : f_X11_lost σ sz (A 0 0) (iI (c : Nat)) (iI (o : Nat)) (iL (x : Nat)) = bs (spX (x * u.natAbs) ((do_ : Int) - dc - s) mo) (fun j => some (.inl j, τ, y)) fun x8 => (isO τ (A 0 0) 10).bind fun _ => b3 (f_X11_changed τ y (A 0 0) (iI (o : Nat)) (iI (c : Nat)) x8) fun u17 τ15 y16 => bs u17 (fun j18 => some (.inl j18, τ15, y16)) fun x14 => some (.inr (iL (x : Nat) - x14), τ15, y16) := by
    simp only [f_X11_lost, f_X11_checkChange, f_X11_checkUnlike, hC.xo, Option.bind_some, c1, o1, if_neg hv, m1, bs, b3, ck, t3]
    cases spX (x * u.natAbs) ((do_ : Int) - dc - s) mo <;> rfl
  obtain ⟨M0, -, -, hcase⟩ := there σ
  rcases hcase with ⟨h1, -⟩ | ⟨v, hv9, h1, -, -⟩
  · refine ag_ex (k := 4) (y := y) rfl ho ?_ cτ (by decide) (by decide) (fun ρ => ?_)
    · rw [h1] at cl
      simp only [f_L_lost, hC.xo, Option.bind_some, cl, b3, bs]
      rfl
    · obtain ⟨M1, -, -, ⟨-, M2, g1, g2, g3⟩ | ⟨v, -, g2, -⟩⟩ := there ρ
      · exact ⟨M2, 0, g3, g2, (rτ.sd g1).up⟩
      · rw [h1] at g2; cases g2
  · rw [h1] at cl
    obtain ⟨τ', y', z1, z2, z3⟩ := x_changed cτ t2 hoo hc hv9 k2 k1 hrτ'
    have cτ' := cτ.mk_ t2 z1
    have rτ' : Rel n ni A K M τ' := rτ.vk (fun p u s hv => hv.of (z1 p (hv.lt t2)))
    have back : ∀ ρ, ∃ M', Sd M M' ∧ ((spX (v * u'.natAbs) ((dc : Int) - do_ - s') mc = .inl 3 ∧ M'.1 8 = 4 ∧ f_X12_lost N (ov mb M ρ) mb (iI (c : Nat)) (iI (o : Nat)) (iL (x : Nat)) = some (0, ov mb M' ρ)) ∨ ∃ w : Nat, spX (v * u'.natAbs) ((dc : Int) - do_ - s') mc = .inr (iL (w : Nat)) ∧ M'.1 8 = 0 ∧ f_X12_lost N (ov mb M ρ) mb (iI (c : Nat)) (iI (o : Nat)) (iL (x : Nat)) = some (iL (x : Nat) - iL (w : Nat), ov mb M' ρ)) := by
      intro ρ
      obtain ⟨M1, s1, s2, ⟨g2, -⟩ | ⟨v', hv9', g2, g3, g4⟩⟩ := there ρ
      · rw [h1] at g2; cases g2
      · rw [h1] at g2
        have ev : iL (v : Nat) = iL (v' : Nat) := Sum.inr.inj g2
        have ev2 : v = v' := by rw [jL_eq (by omega) (by omega)] at ev; exact ev
        subst ev2
        obtain ⟨M2, a1, a2⟩ := m_changed (mb := mb) (K := K) (M := M1) (ρ := ρ) (N := N) hoo hc hv9 (Cu.sd k2 s1) (Cu.sd k1 s1) p3' p4' (by rw [s1.2.2]; exact p5') (by rw [s1.2.1 13 (by decide) (by decide)]; exact p6') g3 (by omega)
        have S2 : Sd M M2 := s1.tr a1.sd
        rcases a2 with ⟨h1', h2', h3'⟩ | ⟨w, hw9, h1', h2', h3'⟩
        · refine ⟨uI M2 8 4, S2.tr Sd.u8, Or.inl ⟨h1', u8_v, ?_⟩⟩
          rw [g4, h3', bb2, oI_2, Option.bind_some, h2', if_neg (by decide)]
          unfold b_X12_lost_106
          simp only [ov_isO, Option.bind_some, ff4, b2]
          rfl
        · refine ⟨uI M2 8 0, S2.tr Sd.u8, Or.inr ⟨w, h1', u8_v, ?_⟩⟩
          rw [g4, h3', bb2, oI_2, Option.bind_some, h2', if_pos rfl]
          unfold b_X12_lost_106
          simp only [ov_isO, Option.bind_some, ff0, b2]
          rfl
    obtain ⟨M0, -, hcase⟩ := back σ
    rcases hcase with ⟨h2, -, -⟩ | ⟨w, h2, -, -⟩
    · refine ag_ex (k := 4) (y := y') rfl ho ?_ cτ' (by decide) (by decide) (fun ρ => ?_)
      · have cl2 : f_X11_lost σ sz (A 0 0) (iI (c : Nat)) (iI (o : Nat)) (iL (x : Nat)) = some (.inl 3, τ', y') := by
          rw [cl]
          simp only [bs, cτ.xo, Option.bind_some, z3, h2, b3]
        simp only [f_L_lost, hC.xo, Option.bind_some, cl2, b3, bs]
        rfl
      · obtain ⟨M', g1, g2 | ⟨w, g2, -⟩⟩ := back ρ
        · exact ⟨M', 0, g2.2.2, g2.2.1, (rτ'.sd g1).up⟩
        · rw [h2] at g2; cases g2
    · refine ag_ok (v := iL (x : Nat) - iL (w : Nat)) (y := y') rfl ho ?_ cτ' (fun ρ => ?_)
      · have cl2 : f_X11_lost σ sz (A 0 0) (iI (c : Nat)) (iI (o : Nat)) (iL (x : Nat)) = some (.inr (iL (x : Nat) - iL (w : Nat)), τ', y') := by
          rw [cl]
          simp only [bs, cτ.xo, Option.bind_some, z3, h2, b3]
        simp only [f_L_lost, hC.xo, Option.bind_some, cl2, b3, bs]
      · obtain ⟨M', g1, g2 | ⟨w', g2, g3, g4⟩⟩ := back ρ
        · rw [h2] at g2; cases g2.1
        · rw [h2] at g2
          refine ⟨M', _, g4, g3, ?_, (rτ'.sd g1).up⟩
          rw [Sum.inr.inj g2]
