/-! ===== move, setScale, round ===== -/
theorem p_move {xb mb ob N : Nat} (hN : 1000 ≤ N) : A_move (I0 xb mb ob) N xb mb ob := by
  intro v1 v2 v3
  refine ag_in (fun n σ sz ni A W K M hn hA ho hC hR hF => ?_)
  subst hA
  have no : ∀ (ρ : Sto) (c : Nat) (v1 v2 v3 : Int32), c ≠ 0 → c < 100 → b_X12_move_55 N (ov mb M ρ) mb v1 v2 v3 (iI (c : Nat)) mb = some (0, ov mb (uI M 8 (iI (c : Nat))) ρ) := by
    intro ρ c v1 v2 v3 h1 h2
    unfold b_X12_move_55
    rw [ov_isO, Option.bind_some, m_fails h2, decide_eq_true (by omega)]
    rfl
  have n1 := fun ρ v1 v2 v3 => no ρ 1 v1 v2 v3 (by decide) (by decide)
  have n2 := fun ρ v1 v2 v3 => no ρ 2 v1 v2 v3 (by decide) (by decide)
  have n3 := fun ρ v1 v2 v3 => no ρ 3 v1 v2 v3 (by decide) (by decide)
  rcases sh_cases (v := v1) hR.1 with ⟨k, rfl, hk, c1⟩ | ⟨k, rfl, hk, ha⟩
  · refine ag_no (k := 1) (y := sz) rfl ho hC hR ?_ (by decide) (by decide) (fun ρ => ⟨uI M 8 1, 0, ?_, Sd.u8, u8_v⟩)
    · simp only [f_L_move, f_X11_move, hC.xo, Option.bind_some, x_shN hk c1, bs, b3]
      rfl
    · simp only [f_X12_move, Option.bind_some, m_shN hk c1, if_true]
      exact n1 ρ _ _ _
  rcases sh_cases (v := v3) hR.1 with ⟨t, rfl, ht, c1⟩ | ⟨t, rfl, ht, -⟩
  · refine ag_no (k := 1) (y := sz) rfl ho hC hR ?_ (by decide) (by decide) (fun ρ => ⟨uI M 8 1, 0, ?_, Sd.u8, u8_v⟩)
    · simp only [f_L_move, f_X11_move, hC.xo, Option.bind_some, x_shelfOk hk, x_shN ht c1, bs, b3]
      rfl
    · simp only [f_X12_move, Option.bind_some, m_shY hk, m_shN ht c1, if_true]
      exact n1 ρ _ _ _
  obtain ⟨pl, p1, p2, rfl⟩ := iI_of v2
  have in20 : f_X12_in (iI pl).toInt64 (-20) 20 = some (bI (decide (-20 ≤ pl ∧ pl ≤ 20))) := by
    rw [show (-20 : Int64) = iL (-20) from rfl, show (20 : Int64) = iL 20 from rfl, m_inI ⟨p1, p2⟩ ⟨by decide, by decide⟩ ⟨by decide, by decide⟩]
  have i0 : iI pl = 0 ↔ pl = 0 := by rw [iI_lit 0, iI_eq ⟨p1, p2⟩ ⟨by decide, by decide⟩]; rfl
  have i1 : iI pl < -20 ↔ pl < -20 := by rw [show (-20 : Int32) = iI (-20) from rfl, iI_lt ⟨p1, p2⟩ ⟨by decide, by decide⟩]
  have i2 : iI pl ≤ 20 ↔ pl ≤ 20 := by rw [show (20 : Int32) = iI 20 from rfl, iI_le ⟨p1, p2⟩ ⟨by decide, by decide⟩]
  by_cases hp : pl ≠ 0 ∧ -20 ≤ pl ∧ pl ≤ 20
  · have q0 : ¬ iI pl = 0 := fun w => hp.1 (i0.mp w)
    have q1 : ¬ iI pl < -20 := fun w => by have := i1.mp w; omega
    have q2 : iI pl ≤ 20 := i2.mpr hp.2.2
    have q3 : f_X12_in (iI pl).toInt64 (-20) 20 = some 1 := by rw [in20, decide_eq_true hp.2]; rfl
    rcases ha with ⟨e1, e2⟩ | ⟨p, u, s, e1, hv, hg, hm⟩
    · refine ag_no (k := 3) (y := sz) rfl ho hC hR ?_ (by decide) (by decide) (fun ρ => ⟨uI M 8 3, 0, ?_, Sd.u8, u8_v⟩)
      · simp only [f_L_move, f_X11_move, hC.xo, Option.bind_some, x_shelfOk hk, x_shelfOk ht, x_valueOn hC hk, e1, oq, bs, b3, if_neg q0, if_neg q1, if_pos q2]
        rfl
      · simp only [f_X12_move, Option.bind_some, m_shY hk, m_shY ht, oR_5, oA_5, in12 hk, cl12 hk, e2, if_true, if_neg q0, q3]
        exact n3 ρ _ _ _
    · have ⟨r1, r2, r3, r4⟩ := hg
      have mx := mxI_v 0 (s + pl)
      have hvo : VO (chk (al u (s + pl) (mxI 0 (s + pl))) (mxI 0 (s + pl))) σ sz (f_X10_moved σ sz p (iI pl)) := by
        rw [x_moved hv hg hp.2]
        exact VO.vQ (fun _ _ => rfl) (Nat.le_refl _)
      have hx := vo_scale (t := t) hC hF hR hvo ht (fun u' s' e => (chk_rg e).1)
      refine ag_val (code := 4) (F := fun j6 τ3 y4 => if j6 = 0 then some (1, τ3, y4) else if j6 = 1 then some (2, τ3, y4) else if j6 = 2 then some (3, τ3, y4) else if j6 = 3 then some (4, τ3, y4) else none) rfl ho hx (by decide) (by decide) (fun τ y => rfl) ?_ (fun ρ => ?_)
      · simp only [f_L_move, f_X11_move, hC.xo, Option.bind_some, x_shelfOk hk, x_shelfOk ht, x_valueOn hC hk, e1, oq, bs, if_neg q0, if_neg q1, if_pos q2, hv.io]
      · have m8 : MV (uI M 8 0) k u s := hm
        obtain ⟨M1, a1, a2, a3⟩ := m_lets (mb := mb) (M := uI M 8 0) (σ := ρ) (r := 4) (z := u) (N := N) (by decide) ⟨by omega, by omega⟩ (by omega)
        have hn : nd u.natAbs ≤ 18 := nd_le.mp (by omega)
        obtain ⟨M2, b1, b2', b3'⟩ := m_shifts (mb := mb) (M := M1) (σ := ρ) (r := 4) (z := -(s + pl)) (N := N) (by decide) ⟨by omega, by omega⟩ a3 (Or.inr (by omega)) (by omega)
        have e4 : f_X12_lets N (ov mb (uI M 8 0) ρ) mb 4 (iL u) = some ((), ov mb M1 ρ) := a1
        have e5 : f_X12_shifts N (ov mb M1 ρ) mb 4 (iI (-(s + pl))) = some ((), ov mb M2 ρ) := b1
        have S2 : Sc (uI M 8 0) M2 := a2.sc.tr b2'.sc
        have m2 := m8.sc S2
        have key := m_lays (mb := mb) (M := M2) (σ := ρ) (k := t) (r := 4) (b := ng u) (s := mxI 0 (s + pl)) (N := N) ht (by decide) b3' ⟨by omega, by omega⟩ (by omega)
        have es : sgn (ng u) (u.natAbs * 10 ^ (-(s + pl)).toNat) = al u (s + pl) (mxI 0 (s + pl)) := by
          rw [← sgn_al]
          congr 3
          omega
        rw [es] at key
        have gr : f_X12_greater 0 (iI (s + pl)) = some (iI (mxI 0 (s + pl))) := m_greater (a := 0) (b := s + pl) ⟨by decide, by decide⟩ ⟨by omega, by omega⟩
        simp only [f_X12_move, Option.bind_some, m_shY hk, m_shY ht, oR_5, oA_5, in12 hk, cl12 hk, hm.1, if_true, if_neg q0, q3]
        show MR _ 4 _ mb M ρ t (b_X12_move_55 N (ov mb M ρ) mb (iI (k : Nat)) (iI pl) (iI (t : Nat)) 0 mb)
        unfold b_X12_move_55
        simp only [ov_isO, Option.bind_some, ff0, b2, if_true, oR_4, oA_4, in12 hk, cl12 hk, m8.2.2, oR_3, oA_3, m8.2.1, lt_, iI_add, iI_neg, e4, e5, m2.2.1]
        have fin := MR_end (r := chk (al u (s + pl) (mxI 0 (s + pl))) (mxI 0 (s + pl))) (code := 4) (ans := fun _ s => iI s) (mb := mb) (M := M) (M1 := M2) (σ := ρ) (t := t) (E := fun c τ => b_X12_move_129 N τ mb (iI (t : Nat)) c mb) (by decide) (by decide) (Sd.u8.tr S2.sd) ?_ ?_
        · rw [← key] at fin
          rw [x_ng ⟨by omega, by omega⟩]
          have e112 : ∀ b : Bool, b_X12_move_112 N (ov mb M2 ρ) mb (iI (t : Nat)) (iI (s + pl)) (bI b) 4 (iI (t : Nat)) mb mb = b2 (f_X12_lays N (ov mb M2 ρ) mb (iI (t : Nat)) (iI ((4 : Nat) : Int)) (bI b) (iI (mxI 0 (s + pl)))) fun x τ => if x = 0 then b_X12_move_129 N τ mb (iI (t : Nat)) (iI ((4 : Nat) : Int)) mb else b_X12_move_129 N τ mb (iI (t : Nat)) 0 mb := by
            intro b
            unfold b_X12_move_112
            rw [gr, Option.bind_some, ov_isO, Option.bind_some]
            rfl
          have fin2 := e112 (ng u)
          rw [← fin2] at fin
          revert fin
          cases ng u <;> exact id
        · intro c M3 hc
          subst hc
          unfold b_X12_move_129
          simp only [ov_isO, Option.bind_some, m_fails (show 4 < 100 by decide), b2]
          rfl
        · intro u' s' M3 hr hm3
          unfold b_X12_move_129
          simp only [ov_isO, Option.bind_some, ff0, b2, if_true, oR_4, oA_4, in12 ht, cl12 ht, hm3.u8.2.2]
  · refine ag_no (k := 2) (y := sz) rfl ho hC hR ?_ (by decide) (by decide) (fun ρ => ⟨uI M 8 2, 0, ?_, Sd.u8, u8_v⟩)
    · simp only [f_L_move, f_X11_move, hC.xo, Option.bind_some, x_shelfOk hk, x_shelfOk ht, bs, b3]
      by_cases q0 : iI pl = 0
      · rw [if_pos q0]; rfl
      rw [if_neg q0]
      by_cases q1 : iI pl < -20
      · rw [if_pos q1]; rfl
      rw [if_neg q1, if_neg (fun w => hp ⟨fun w => q0 (i0.mpr w), Int.not_lt.mp (fun v => q1 (i1.mpr v)), i2.mp w⟩)]
      rfl
    · simp only [f_X12_move, Option.bind_some, m_shY hk, m_shY ht, if_true]
      by_cases q0 : iI pl = 0
      · rw [if_pos q0]
        exact n2 ρ _ _ _
      rw [if_neg q0, in20, decide_eq_false (fun w => hp ⟨fun v => q0 (i0.mpr v), w⟩), Option.bind_some]
      exact n2 ρ _ _ _
/-- ranges of scales, modes -/
theorem x_checkScale {w : Int} (hw : -2147483648 ≤ w ∧ w < 2147483648) : f_X11_checkScale (iI w) = some (if -18 ≤ w ∧ w ≤ 36 then .inr () else .inl 1) := by
  unfold f_X11_checkScale
  rw [show (-18 : Int32) = iI (-18) from rfl, show (36 : Int32) = iI 36 from rfl]
  by_cases h1 : w < -18
  · rw [if_pos (by rw [iI_lt hw ⟨by decide, by decide⟩]; exact h1), if_neg (by omega)]
  rw [if_neg (fun q => h1 (by rw [iI_lt hw ⟨by decide, by decide⟩] at q; exact q))]
  by_cases h2 : w ≤ 36
  · rw [if_pos (by rw [iI_le hw ⟨by decide, by decide⟩]; exact h2), if_pos (by omega)]
  · rw [if_neg (fun q => h2 (by rw [iI_le hw ⟨by decide, by decide⟩] at q; exact q)), if_neg (by omega)]
theorem x_checkMode (m : Int32) : f_X11_checkMode m = some (if okM m = true then .inr () else .inl 1) := by
  unfold f_X11_checkMode
  rw [x_isMode, Option.bind_some]
  cases okM m <;> rfl
theorem spR_rg {b : Bool} {m : Int32} {x y : Nat} {w : Int} {u s : Int} (h : spR b m x y w = some (u, s)) : RgV u s := by
  unfold spR at h
  by_cases h9 : x % y ≠ 0 ∧ m = 110
  · rw [if_pos h9] at h; cases h
  · rw [if_neg h9] at h
    exact (chk_rg h).1
theorem p_setScale {xb mb ob N : Nat} (hN : 1000 ≤ N) : A_setScale (I0 xb mb ob) N xb mb ob := by
  intro v1 v2 m v4
  refine ag_in (fun n σ sz ni A W K M hn hA ho hC hR hF => ?_)
  subst hA
  have no : ∀ (ρ : Sto) (c : Nat) (v1 v2 v3 v4 : Int32), c ≠ 0 → c < 100 → b_X12_setScale_52 N (ov mb M ρ) mb v1 v2 v3 v4 (iI (c : Nat)) mb = some (0, ov mb (uI M 8 (iI (c : Nat))) ρ) := by
    intro ρ c v1 v2 v3 v4 h1 h2
    unfold b_X12_setScale_52
    rw [ov_isO, Option.bind_some, m_fails h2, decide_eq_true (by omega)]
    rfl
  have n1 := fun ρ v1 v2 v3 v4 => no ρ 1 v1 v2 v3 v4 (by decide) (by decide)
  have n2 := fun ρ v1 v2 v3 v4 => no ρ 2 v1 v2 v3 v4 (by decide) (by decide)
  have n3 := fun ρ v1 v2 v3 v4 => no ρ 3 v1 v2 v3 v4 (by decide) (by decide)
  rcases sh_cases (v := v1) hR.1 with ⟨k, rfl, hk, c1⟩ | ⟨k, rfl, hk, ha⟩
  · refine ag_no (k := 1) (y := sz) rfl ho hC hR ?_ (by decide) (by decide) (fun ρ => ⟨uI M 8 1, 0, ?_, Sd.u8, u8_v⟩)
    · simp only [f_L_setScale, f_X11_setScale, hC.xo, Option.bind_some, x_shN hk c1, bs, b3]
      rfl
    · simp only [f_X12_setScale, Option.bind_some, m_shN hk c1, if_true]
      exact n1 ρ _ _ _ _
  rcases sh_cases (v := v4) hR.1 with ⟨t, rfl, ht, c1⟩ | ⟨t, rfl, ht, -⟩
  · refine ag_no (k := 1) (y := sz) rfl ho hC hR ?_ (by decide) (by decide) (fun ρ => ⟨uI M 8 1, 0, ?_, Sd.u8, u8_v⟩)
    · simp only [f_L_setScale, f_X11_setScale, hC.xo, Option.bind_some, x_shelfOk hk, x_shN ht c1, bs, b3]
      rfl
    · simp only [f_X12_setScale, Option.bind_some, m_shY hk, m_shN ht c1, if_true]
      exact n1 ρ _ _ _ _
  obtain ⟨w, w1, w2, rfl⟩ := iI_of v2
  by_cases hw : -18 ≤ w ∧ w ≤ 36
  case neg =>
    refine ag_no (k := 2) (y := sz) rfl ho hC hR ?_ (by decide) (by decide) (fun ρ => ⟨uI M 8 2, 0, ?_, Sd.u8, u8_v⟩)
    · simp only [f_L_setScale, f_X11_setScale, hC.xo, Option.bind_some, x_shelfOk hk, x_shelfOk ht, x_checkScale ⟨w1, w2⟩, if_neg hw, bs, b3]
      rfl
    · simp only [f_X12_setScale, Option.bind_some, m_shY hk, m_shY ht, m_isScale ⟨w1, w2⟩, decide_eq_false hw]
      exact n2 ρ _ _ _ _
  by_cases hm0 : okM m = true
  case neg =>
    refine ag_no (k := 2) (y := sz) rfl ho hC hR ?_ (by decide) (by decide) (fun ρ => ⟨uI M 8 2, 0, ?_, Sd.u8, u8_v⟩)
    · simp only [f_L_setScale, f_X11_setScale, hC.xo, Option.bind_some, x_shelfOk hk, x_shelfOk ht, x_checkScale ⟨w1, w2⟩, if_pos hw, x_checkMode, if_neg hm0, bs, b3]
      rfl
    · have hm1 : okM m = false := by cases h : okM m <;> simp_all
      simp only [f_X12_setScale, Option.bind_some, m_shY hk, m_shY ht, m_isScale ⟨w1, w2⟩, decide_eq_true hw, m_isMode, hm1]
      exact n2 ρ _ _ _ _
  rcases ha with ⟨e1, e2⟩ | ⟨p, u, s, e1, hv, hg, hm⟩
  · refine ag_no (k := 3) (y := sz) rfl ho hC hR ?_ (by decide) (by decide) (fun ρ => ⟨uI M 8 3, 0, ?_, Sd.u8, u8_v⟩)
    · simp only [f_L_setScale, f_X11_setScale, hC.xo, Option.bind_some, x_shelfOk hk, x_shelfOk ht, x_checkScale ⟨w1, w2⟩, if_pos hw, x_checkMode, if_pos hm0, x_valueOn hC hk, e1, oq, bs, b3]
      rfl
    · simp only [f_X12_setScale, Option.bind_some, m_shY hk, m_shY ht, m_isScale ⟨w1, w2⟩, decide_eq_true hw, m_isMode, hm0, oR_5, oA_5, in12 hk, cl12 hk, e2, if_true]
      exact n3 ρ _ _ _ _
  have ⟨r1, r2, r3, r4⟩ := hg
  have hvo : VO (spR (ng u) m (u.natAbs * 10 ^ (w - s).toNat) (10 ^ (s - w).toNat) w) σ sz (f_X10_toScale σ sz p (iI w) m) := by
    rw [x_toScale hv hg hw hm0]
    exact VO.vQ (fun _ _ => rfl) (Nat.le_refl _)
  have hx := vo_digits (t := t) (N := N) hC hF hR hvo ht (fun u' s' e => spR_rg e) (by omega)
  refine ag_val (code := 4) (F := fun j6 τ3 y4 => if j6 = 0 then some (1, τ3, y4) else if j6 = 1 then some (2, τ3, y4) else if j6 = 2 then some (3, τ3, y4) else if j6 = 3 then some (4, τ3, y4) else none) rfl ho hx (by decide) (by decide) (fun τ y => rfl) ?_ (fun ρ => ?_)
  · simp only [f_L_setScale, f_X11_setScale, hC.xo, Option.bind_some, x_shelfOk hk, x_shelfOk ht, x_checkScale ⟨w1, w2⟩, if_pos hw, x_checkMode, if_pos hm0, x_valueOn hC hk, e1, oq, bs, hv.io]
  · have m8 : MV (uI M 8 0) k u s := hm
    obtain ⟨M2, a1, S2, a3, a4⟩ := m_scales (mb := mb) (M := uI M 8 0) (σ := ρ) (w := w) (m := m) (N := N) hk m8 hg ⟨by omega, by omega⟩ (by omega)
    have m2 := m8.sc S2
    simp only [f_X12_setScale, Option.bind_some, m_shY hk, m_shY ht, m_isScale ⟨w1, w2⟩, decide_eq_true hw, m_isMode, hm0, oR_5, oA_5, in12 hk, cl12 hk, hm.1, if_true]
    show MR _ 4 _ mb M ρ t (b_X12_setScale_52 N (ov mb M ρ) mb (iI (k : Nat)) (iI w) m (iI (t : Nat)) 0 mb)
    unfold b_X12_setScale_52
    simp only [ov_isO, Option.bind_some, ff0, b2, if_true, a1, oI_2, a3]
    unfold spR
    have e4 : ∀ c : Nat, c = 4 → b_X12_setScale_107 N (ov mb M2 ρ) mb (iI (t : Nat)) (iI (c : Nat)) mb = some (0, ov mb (uI M2 8 (iI (c : Nat))) ρ) := by
      intro c hc
      subst hc
      unfold b_X12_setScale_107
      simp only [ov_isO, Option.bind_some, m_fails (show 4 < 100 by decide), b2]
      rfl
    by_cases h9 : (u.natAbs * 10 ^ (w - s).toNat) % 10 ^ (s - w).toNat ≠ 0 ∧ m = 110
    · rw [if_pos h9, if_pos h9, if_neg (by decide)]
      refine Or.inl ⟨rfl, uI M2 8 4, ?_, (Sd.u8.tr S2.sd).tr Sd.u8, u8_v⟩
      exact e4 4 rfl
    · rw [if_neg h9, if_neg h9, if_pos rfl]
      simp only [oR_3, oA_3, Option.bind_some, in12 hk, cl12 hk, if_true, m2.2.1]
      have key := m_lays (mb := mb) (M := M2) (σ := ρ) (k := t) (r := 2) (b := ng u) (s := w) (N := N) ht (by decide) a4 ⟨by omega, by omega⟩ (by omega)
      have fin := MR_end (r := chk (sgn (ng u) (rq (ng u) m (u.natAbs * 10 ^ (w - s).toNat) (10 ^ (s - w).toNat))) w) (code := 4) (ans := fun u _ => iI (dgN u.natAbs : Nat)) (mb := mb) (M := M) (M1 := M2) (σ := ρ) (t := t) (E := fun c τ => b_X12_setScale_107 N τ mb (iI (t : Nat)) c mb) (by decide) (by decide) (Sd.u8.tr S2.sd) ?_ ?_
      · rw [← key] at fin
        rw [x_ng ⟨by omega, by omega⟩]
        have e95 : ∀ b : Bool, b_X12_setScale_95 N (ov mb M2 ρ) mb (iI w) (iI (t : Nat)) (bI b) 2 (iI (t : Nat)) mb mb = b2 (f_X12_lays N (ov mb M2 ρ) mb (iI (t : Nat)) (iI ((2 : Nat) : Int)) (bI b) (iI w)) fun x τ => if x = 0 then b_X12_setScale_107 N τ mb (iI (t : Nat)) (iI ((4 : Nat) : Int)) mb else b_X12_setScale_107 N τ mb (iI (t : Nat)) 0 mb := by
          intro b
          unfold b_X12_setScale_95
          rw [ov_isO, Option.bind_some]
          rfl
        have fin2 := e95 (ng u)
        rw [← fin2] at fin
        revert fin
        cases ng u <;> exact id
      · intro c M3 hc
        subst hc
        unfold b_X12_setScale_107
        simp only [ov_isO, Option.bind_some, m_fails (show 4 < 100 by decide), b2]
        rfl
      · intro u' s' M3 hr hm3
        have ⟨g1, g2, g3, g4⟩ := (chk_rg hr).1
        unfold b_X12_setScale_107
        simp only [ov_isO, Option.bind_some, ff0, b2, if_true, oR_3, oA_3, in12 ht, cl12 ht, hm3.u8.2.1, m_digitsOf (N := N) ⟨show -9223372036854775808 < u' by omega, by omega⟩ (by omega)]
