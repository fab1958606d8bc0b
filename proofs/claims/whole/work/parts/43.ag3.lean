/-! ===== round, divide ===== -/
theorem nd_dg {q d : Nat} (hd : 1 ≤ d) : nd q ≤ d ↔ dgN q ≤ d := by
  rw [dgN_le hd]
  exact nd_le.symm
theorem spD_rg {u s u' s' : Int} {d : Nat} {m : Int32} (hg : RgV u s) (h : spD u s d m = some (u', s')) : RgV u' s' := by
  unfold spD at h
  by_cases h1 : dgN u.natAbs ≤ d
  · rw [if_pos h1] at h
    cases h
    exact hg
  rw [if_neg h1] at h
  by_cases h2 : u.natAbs % 10 ^ (dgN u.natAbs - d) ≠ 0 ∧ m = 110
  · rw [if_pos h2] at h; cases h
  rw [if_neg h2] at h
  by_cases h3 : dgN (rq (ng u) m u.natAbs (10 ^ (dgN u.natAbs - d))) ≤ d
  · rw [if_pos h3] at h; exact (chk_rg h).1
  · rw [if_neg h3] at h; exact (chk_rg h).1
theorem chk_ok {u s : Int} (hg : RgV u s) : chk u s = some (u, s) := by
  unfold chk inR
  rw [decide_eq_true (by exact hg), if_pos rfl]
theorem m_round_140 {mb k t N q : Nat} {M M2 : MS} {ρ : Sto} {u s w : Int} {ref : Prop} [hd : Decidable ref] (hN : 1000 ≤ N) (hk : k < 12) (ht : t < 12) (hg : RgV u s) (hm : MV M2 k u s) (hq : Hv M2 4 q) (hr : M2.1 2 = if ref then 1 else 0) (hs : Sd M M2) (hw : -1000 ≤ w ∧ w ≤ 1000) : MR (if ref then none else chk (sgn (ng u) q) w) 4 (fun _ s => iI s) mb M ρ t (b_X12_round_140 N (ov mb M2 ρ) mb (iI (k : Nat)) (iI (t : Nat)) (iI w)) := by
  have ⟨r1, r2, r3, r4⟩ := hg
  unfold b_X12_round_140
  simp only [oI_2, Option.bind_some, hr]
  by_cases h9 : ref
  · rw [if_pos h9, if_pos h9, if_neg (by decide)]
    refine Or.inl ⟨rfl, uI M2 8 4, ?_, hs.tr Sd.u8, u8_v⟩
    unfold b_X12_round_180 b_X12_round_181
    simp only [ov_isO, Option.bind_some, ff4, b2]
    rfl
  · rw [if_neg h9, if_neg h9, if_pos rfl]
    simp only [oR_3, oA_3, Option.bind_some, in12 hk, cl12 hk, if_true, hm.2.1]
    have key := m_lays (mb := mb) (M := M2) (σ := ρ) (k := t) (r := 4) (b := ng u) (s := w) (N := N) ht (by decide) hq ⟨by omega, by omega⟩ (by omega)
    have fin := MR_end (r := chk (sgn (ng u) q) w) (code := 4) (ans := fun _ s => iI s) (mb := mb) (M := M) (M1 := M2) (σ := ρ) (t := t) (E := fun c τ => b_X12_round_181 N τ mb (iI (t : Nat)) c mb) (by decide) (by decide) hs ?_ ?_
    · rw [← key] at fin
      rw [x_ng ⟨by omega, by omega⟩]
      have e95 : ∀ b : Bool, b_X12_round_168 N (ov mb M2 ρ) mb (iI (t : Nat)) (iI w) (bI b) 4 (iI (t : Nat)) mb mb = b2 (f_X12_lays N (ov mb M2 ρ) mb (iI (t : Nat)) (iI ((4 : Nat) : Int)) (bI b) (iI w)) fun x τ => if x = 0 then b_X12_round_181 N τ mb (iI (t : Nat)) (iI ((4 : Nat) : Int)) mb else b_X12_round_181 N τ mb (iI (t : Nat)) 0 mb := by
        intro b
        unfold b_X12_round_168
        rw [ov_isO, Option.bind_some]
        rfl
      have fin2 := e95 (ng u)
      rw [← fin2] at fin
      revert fin
      cases ng u <;> exact id
    · intro c M3 hc
      subst hc
      unfold b_X12_round_181
      simp only [ov_isO, Option.bind_some, m_fails (show 4 < 100 by decide), b2]
      rfl
    · intro u' s' M3 hr hm3
      unfold b_X12_round_181
      simp only [ov_isO, Option.bind_some, ff0, b2, if_true, oR_4, oA_4, in12 ht, cl12 ht, hm3.u8.2.2]
theorem p_round {xb mb ob N : Nat} (hN : 1000 ≤ N) : A_round (I0 xb mb ob) N xb mb ob := by
  intro v1 v2 m v4
  refine ag_in (fun n σ sz ni A W K M hn hA ho hC hR hF => ?_)
  subst hA
  have no : ∀ (ρ : Sto) (c : Nat) (v1 v2 v3 v4 : Int32), c ≠ 0 → c < 100 → b_X12_round_57 N (ov mb M ρ) mb v1 v2 v3 v4 (iI (c : Nat)) mb = some (0, ov mb (uI M 8 (iI (c : Nat))) ρ) := by
    intro ρ c v1 v2 v3 v4 h1 h2
    unfold b_X12_round_57
    rw [ov_isO, Option.bind_some, m_fails h2, decide_eq_true (by omega)]
    rfl
  have n1 := fun ρ v1 v2 v3 v4 => no ρ 1 v1 v2 v3 v4 (by decide) (by decide)
  have n2 := fun ρ v1 v2 v3 v4 => no ρ 2 v1 v2 v3 v4 (by decide) (by decide)
  have n3 := fun ρ v1 v2 v3 v4 => no ρ 3 v1 v2 v3 v4 (by decide) (by decide)
  rcases sh_cases (v := v1) hR.1 with ⟨k, rfl, hk, c1⟩ | ⟨k, rfl, hk, ha⟩
  · refine ag_no (k := 1) (y := sz) rfl ho hC hR ?_ (by decide) (by decide) (fun ρ => ⟨uI M 8 1, 0, ?_, Sd.u8, u8_v⟩)
    · simp only [f_L_round, f_X11_round, hC.xo, Option.bind_some, x_shN hk c1, bs, b3]
      rfl
    · simp only [f_X12_round, Option.bind_some, m_shN hk c1, if_true]
      exact n1 ρ _ _ _ _
  rcases sh_cases (v := v4) hR.1 with ⟨t, rfl, ht, c1⟩ | ⟨t, rfl, ht, -⟩
  · refine ag_no (k := 1) (y := sz) rfl ho hC hR ?_ (by decide) (by decide) (fun ρ => ⟨uI M 8 1, 0, ?_, Sd.u8, u8_v⟩)
    · simp only [f_L_round, f_X11_round, hC.xo, Option.bind_some, x_shelfOk hk, x_shN ht c1, bs, b3]
      rfl
    · simp only [f_X12_round, Option.bind_some, m_shY hk, m_shN ht c1, if_true]
      exact n1 ρ _ _ _ _
  obtain ⟨w, w1, w2, rfl⟩ := iI_of v2
  have in18 : f_X12_in (iI w).toInt64 1 18 = some (bI (decide (1 ≤ w ∧ w ≤ 18))) := by
    rw [show (1 : Int64) = iL 1 from rfl, show (18 : Int64) = iL 18 from rfl, m_inI ⟨w1, w2⟩ ⟨by decide, by decide⟩ ⟨by decide, by decide⟩]
  have i1 : iI w < 1 ↔ w < 1 := by rw [show (1 : Int32) = iI 1 from rfl, iI_lt ⟨w1, w2⟩ ⟨by decide, by decide⟩]
  have i2 : iI w ≤ 18 ↔ w ≤ 18 := by rw [show (18 : Int32) = iI 18 from rfl, iI_le ⟨w1, w2⟩ ⟨by decide, by decide⟩]
  by_cases hw : 1 ≤ w ∧ w ≤ 18
  case neg =>
    refine ag_no (k := 2) (y := sz) rfl ho hC hR ?_ (by decide) (by decide) (fun ρ => ⟨uI M 8 2, 0, ?_, Sd.u8, u8_v⟩)
    · simp only [f_L_round, f_X11_round, hC.xo, Option.bind_some, x_shelfOk hk, x_shelfOk ht, bs, b3]
      by_cases q1 : iI w < 1
      · rw [if_pos q1]; rfl
      rw [if_neg q1, if_neg (fun v => hw ⟨Int.not_lt.mp (fun z => q1 (i1.mpr z)), i2.mp v⟩)]
      rfl
    · simp only [f_X12_round, Option.bind_some, m_shY hk, m_shY ht, in18, decide_eq_false hw]
      exact n2 ρ _ _ _ _
  have q1 : ¬ iI w < 1 := fun v => by have := i1.mp v; omega
  have q2 : iI w ≤ 18 := i2.mpr hw.2
  obtain ⟨d, rfl⟩ : ∃ d : Nat, w = d := ⟨w.toNat, by omega⟩
  have hd : 1 ≤ d ∧ d ≤ 18 := by omega
  by_cases hm0 : okM m = true
  case neg =>
    refine ag_no (k := 2) (y := sz) rfl ho hC hR ?_ (by decide) (by decide) (fun ρ => ⟨uI M 8 2, 0, ?_, Sd.u8, u8_v⟩)
    · simp only [f_L_round, f_X11_round, hC.xo, Option.bind_some, x_shelfOk hk, x_shelfOk ht, if_neg q1, if_pos q2, x_checkMode, if_neg hm0, bs, b3]
      rfl
    · have hm1 : okM m = false := by cases h : okM m <;> simp_all
      simp only [f_X12_round, Option.bind_some, m_shY hk, m_shY ht, in18, decide_eq_true hw, m_isMode, hm1]
      exact n2 ρ _ _ _ _
  rcases ha with ⟨e1, e2⟩ | ⟨p, u, s, e1, hv, hg, hm⟩
  · refine ag_no (k := 3) (y := sz) rfl ho hC hR ?_ (by decide) (by decide) (fun ρ => ⟨uI M 8 3, 0, ?_, Sd.u8, u8_v⟩)
    · simp only [f_L_round, f_X11_round, hC.xo, Option.bind_some, x_shelfOk hk, x_shelfOk ht, if_neg q1, if_pos q2, x_checkMode, if_pos hm0, x_valueOn hC hk, e1, oq, bs, b3]
      rfl
    · simp only [f_X12_round, Option.bind_some, m_shY hk, m_shY ht, in18, decide_eq_true hw, m_isMode, hm0, oR_5, oA_5, in12 hk, cl12 hk, e2, if_true]
      exact n3 ρ _ _ _ _
  have ⟨r1, r2, r3, r4⟩ := hg
  have hvo : VO (spD u s d m) σ sz (f_X10_toDigits N σ sz p (iI (d : Nat)) m) := x_toDigits hv hg hd hm0 (by omega)
  have hx := vo_scale (t := t) hC hF hR hvo ht (fun u' s' e => spD_rg hg e)
  refine ag_val (code := 4) (F := fun j6 τ3 y4 => if j6 = 0 then some (1, τ3, y4) else if j6 = 1 then some (2, τ3, y4) else if j6 = 2 then some (3, τ3, y4) else if j6 = 3 then some (4, τ3, y4) else none) rfl ho hx (by decide) (by decide) (fun τ y => rfl) ?_ (fun ρ => ?_)
  · simp only [f_L_round, f_X11_round, hC.xo, Option.bind_some, x_shelfOk hk, x_shelfOk ht, if_neg q1, if_pos q2, x_checkMode, if_pos hm0, x_valueOn hC hk, e1, oq, bs, hv.io]
  · have m8 : MV (uI M 8 0) k u s := hm
    have d18 := dg_18 (n := u.natAbs) (by omega)
    have dp := dgN_pos u.natAbs
    have mx := mxI_v 0 ((dgN u.natAbs : Int) - (d : Int))
    obtain ⟨g, hgv⟩ : ∃ g : Nat, mxI 0 ((dgN u.natAbs : Int) - (d : Int)) = g := ⟨(mxI 0 ((dgN u.natAbs : Int) - (d : Int))).toNat, by omega⟩
    obtain ⟨M2, a1, S2, a3, a4⟩ := m_scales (mb := mb) (M := uI M 8 0) (σ := ρ) (w := s - (g : Int)) (m := m) (N := N) hk m8 hg ⟨by omega, by omega⟩ (by omega)
    rw [show (s - (g : Int) - s).toNat = 0 by omega, Nat.pow_zero, Nat.mul_one, show (s - (s - (g : Int))).toNat = g by omega] at a3 a4
    have hq := rq_le (ng u) m u.natAbs (10 ^ g)
    have hq2 := Nat.div_le_self u.natAbs (10 ^ g)
    obtain ⟨M3, b1, b2', b3'⟩ := m_copies (mb := mb) (M := M2) (σ := ρ) (f := 2) (t := 4) (N := N) (by decide) (by decide) (by decide) a4 (by omega)
    have S3 : Sc (uI M 8 0) M3 := S2.tr b2'.sc
    have m3 := m8.sc S3
    have f3 : M3.1 2 = (if u.natAbs % 10 ^ g ≠ 0 ∧ m = 110 then 1 else 0) := by rw [b2'.1, a3]
    have e5 : f_X12_copies N (ov mb M2 ρ) mb 2 4 = some ((), ov mb M3 ρ) := b1
    obtain ⟨r4a, r4b⟩ := rI (show 4 < 10 by decide)
    have gr : f_X12_greater 0 (iI ((dgN u.natAbs : Int) - (d : Int))) = some (iI (g : Nat)) := by
      have := m_greater (a := 0) (b := (dgN u.natAbs : Int) - (d : Int)) ⟨by decide, by decide⟩ ⟨by omega, by omega⟩
      rw [hgv] at this
      exact this
    simp only [f_X12_round, Option.bind_some, m_shY hk, m_shY ht, in18, decide_eq_true hw, m_isMode, hm0, oR_5, oA_5, in12 hk, cl12 hk, hm.1, if_true]
    show MR _ 4 _ mb M ρ t (b_X12_round_57 N (ov mb M ρ) mb (iI (k : Nat)) (iI (d : Nat)) m (iI (t : Nat)) 0 mb)
    unfold b_X12_round_57
    simp only [ov_isO, Option.bind_some, ff0, b2, if_true, oR_4, oA_4, in12 hk, cl12 hk, m8.2.2, oR_3, oA_3, m8.2.1, m_digitsOf (N := N) ⟨show -9223372036854775808 < u by omega, by omega⟩ (by omega), iI_sub, gr, lt_, a1, e5, oR_1, oA_1]
    have il4 : inB (4 : Int32) 10 = true := by decide
    have cl4 : (4 : Int32).toNatClampNeg = 4 := by decide
    rw [if_pos il4, cl4, Option.bind_some, b3'.1]
    have h19 : nd (rq (ng u) m u.natAbs (10 ^ g)) ≤ 19 := nd_le.mp (by omega)
    have spec : spD u s d m = (if u.natAbs % 10 ^ g ≠ 0 ∧ m = 110 then none else if nd (rq (ng u) m u.natAbs (10 ^ g)) ≤ d then chk (sgn (ng u) (rq (ng u) m u.natAbs (10 ^ g))) (s - (g : Int)) else chk (sgn (ng u) (rq (ng u) m u.natAbs (10 ^ g) / 10)) (s - (g : Int) - 1)) := by
      unfold spD
      by_cases h1 : dgN u.natAbs ≤ d
      · have g0 : g = 0 := by omega
        subst g0
        have z : u.natAbs % 10 ^ 0 = 0 := Nat.mod_one _
        rw [if_pos h1, if_neg (fun w => w.1 z), rq_ex z, Nat.pow_zero, Nat.div_one, if_pos ((nd_dg hd.1).mpr h1), sgn_ng, show s - ((0 : Nat) : Int) = s by omega, chk_ok hg]
      · have g0 : g = dgN u.natAbs - d := by omega
        rw [if_neg h1, ← g0]
        by_cases h2 : u.natAbs % 10 ^ g ≠ 0 ∧ m = 110
        · rw [if_pos h2, if_pos h2]
        rw [if_neg h2, if_neg h2]
        by_cases h3 : dgN (rq (ng u) m u.natAbs (10 ^ g)) ≤ d
        · rw [if_pos h3, if_pos ((nd_dg hd.1).mpr h3)]
        · rw [if_neg h3, if_neg (fun w => h3 ((nd_dg hd.1).mp w)), show s - (((g + 1 : Nat)) : Int) = s - (g : Int) - 1 by omega]
    rw [spec]
    by_cases h3 : nd (rq (ng u) m u.natAbs (10 ^ g)) ≤ d
    · rw [if_pos h3, if_pos (show iI (nd (rq (ng u) m u.natAbs (10 ^ g)) : Nat) ≤ iI (d : Nat) by rw [jI_le (by omega) (by omega)]; exact h3)]
      exact m_round_140 hN hk ht hg m3 b3' f3 (Sd.u8.tr S3.sd) ⟨by omega, by omega⟩
    · rw [if_neg h3, if_neg (show ¬ iI (nd (rq (ng u) m u.natAbs (10 ^ g)) : Nat) ≤ iI (d : Nat) from fun v => h3 (by rw [jI_le (by omega) (by omega)] at v; exact v))]
      obtain ⟨M4, c1, c2, c3⟩ := m_copies (mb := mb) (M := M3) (σ := ρ) (f := 4) (t := 0) (N := N) (by decide) (by decide) (by decide) b3' (by omega)
      obtain ⟨M5, d1, d2, d3⟩ := m_lets (mb := mb) (M := M4) (σ := ρ) (r := 1) (z := 10) (N := N) (by decide) ⟨by decide, by decide⟩ (by omega)
      have x5 := d2.Hv (r := 0) (by decide) c3
      obtain ⟨M6, y1, y2, y3, y4⟩ := m_divides (mb := mb) (M := M5) (σ := ρ) (y := 10) (N := N) x5 d3 (by decide) (by omega) (by have : nd 10 ≤ 2 := nd_le.mp (by decide); omega) (by omega)
      obtain ⟨M7, z1, z2, z3⟩ := m_copies (mb := mb) (M := M6) (σ := ρ) (f := 2) (t := 4) (N := N) (by decide) (by decide) (by decide) y3 (by omega)
      have S7 : Sc (uI M 8 0) M7 := (((S3.tr c2.sc).tr d2.sc).tr y2.sc).tr z2.sc
      have f7 : M7.1 2 = (if u.natAbs % 10 ^ g ≠ 0 ∧ m = 110 then 1 else 0) := by rw [z2.1, y2.1, d2.1, c2.1, f3]
      have k1 : f_X12_copies N (ov mb M3 ρ) mb 4 0 = some ((), ov mb M4 ρ) := c1
      have k2 : f_X12_lets N (ov mb M4 ρ) mb 1 10 = some ((), ov mb M5 ρ) := d1
      have k4 : f_X12_copies N (ov mb M6 ρ) mb 2 4 = some ((), ov mb M7 ρ) := z1
      simp only [ov_isO, Option.bind_some, k1, k2, y1, k4]
      have fin := m_round_140 (mb := mb) (t := t) (M := M) (ρ := ρ) (w := s - (g : Int) - 1) hN hk ht hg (m8.sc S7) z3 f7 (Sd.u8.tr S7.sd) ⟨by omega, by omega⟩
      rw [show iI (s - (g : Int)) + -1 = iI (s - (g : Int) - 1) by rw [show (-1 : Int32) = iI (-1) from rfl, iI_add]; exact congrArg iI (by omega)]
      exact fin
theorem m_noPair {a0 : Nat} {v1 v2 v3 : Int32} {a b c : Int32} (h1 : f_X12_isShelf v1 = some a) (h2 : f_X12_isShelf v2 = some b) (h3 : f_X12_isShelf v3 = some c) : f_X12_noPair a0 v1 v2 v3 = some (if a = 0 then 1 else if b = 0 then 1 else if c = 0 then 1 else 0) := by
  unfold f_X12_noPair
  rw [h1, h2, h3]
  simp only [Option.bind_some]
  by_cases c1 : a = 0
  · rw [if_pos c1, if_pos c1]
  rw [if_neg c1, if_neg c1]
  by_cases c2 : b = 0
  · rw [if_pos c2, if_pos c2]
  rw [if_neg c2, if_neg c2]
  by_cases c3 : c = 0
  · rw [if_pos c3, if_pos c3]
  · rw [if_neg c3, if_neg c3]
theorem spO_rg {u s u' s' w a b : Int} {m : Int32} (h : spO u s u' s' w m = some (a, b)) : RgV a b := by
  unfold spO at h
  by_cases h0 : u' = 0
  · rw [if_pos h0] at h; cases h
  · rw [if_neg h0] at h; exact spR_rg h
theorem p_divide {xb mb ob N : Nat} (hN : 1000 ≤ N) : A_divide (I0 xb mb ob) N xb mb ob := by
  intro v1 v2 v3 m v5
  refine ag_in (fun n σ sz ni A W K M hn hA ho hC hR hF => ?_)
  subst hA
  have no : ∀ (ρ : Sto) (c : Nat) (v1 v2 v3 v4 v5 : Int32), c ≠ 0 → c < 100 → b_X12_divide_73 N (ov mb M ρ) mb v1 v2 v3 v4 v5 (iI (c : Nat)) mb = some (0, ov mb (uI M 8 (iI (c : Nat))) ρ) := by
    intro ρ c v1 v2 v3 v4 v5 h1 h2
    unfold b_X12_divide_73
    rw [ov_isO, Option.bind_some, m_fails h2, decide_eq_true (by omega)]
    rfl
  have n1 := fun ρ v1 v2 v3 v4 v5 => no ρ 1 v1 v2 v3 v4 v5 (by decide) (by decide)
  have n2 := fun ρ v1 v2 v3 v4 v5 => no ρ 2 v1 v2 v3 v4 v5 (by decide) (by decide)
  have n3 := fun ρ v1 v2 v3 v4 v5 => no ρ 3 v1 v2 v3 v4 v5 (by decide) (by decide)
  have n4 := fun ρ v1 v2 v3 v4 v5 => no ρ 4 v1 v2 v3 v4 v5 (by decide) (by decide)
  have shv : ∀ v : Int32, ∃ a, f_X12_isShelf v = some a := by
    intro v
    obtain ⟨z, z1, z2, rfl⟩ := iI_of v
    exact ⟨_, m_isShelf ⟨z1, z2⟩⟩
  obtain ⟨a1, ha1⟩ := shv v1
  obtain ⟨a2, ha2⟩ := shv v2
  obtain ⟨a5, ha5⟩ := shv v5
  rcases sh_cases (v := v1) hR.1 with ⟨k, rfl, hk, c1⟩ | ⟨k, rfl, hk, ha⟩
  · have np := m_noPair (a0 := mb) (m_shN hk c1) ha2 ha5
    refine ag_no (k := 1) (y := sz) rfl ho hC hR ?_ (by decide) (by decide) (fun ρ => ⟨uI M 8 1, 0, ?_, Sd.u8, u8_v⟩)
    · simp only [f_L_divide, f_X11_divide, hC.xo, Option.bind_some, x_shN hk c1, bs, b3]
      rfl
    · simp only [f_X12_divide, ov_isO, Option.bind_some, np, if_true]
      exact n1 ρ _ _ _ _ _
  rcases sh_cases (v := v2) hR.1 with ⟨k', rfl, hk', c1⟩ | ⟨k', rfl, hk', ha'⟩
  · have np := m_noPair (a0 := mb) (m_shY hk) (m_shN hk' c1) ha5
    refine ag_no (k := 1) (y := sz) rfl ho hC hR ?_ (by decide) (by decide) (fun ρ => ⟨uI M 8 1, 0, ?_, Sd.u8, u8_v⟩)
    · simp only [f_L_divide, f_X11_divide, hC.xo, Option.bind_some, x_shelfOk hk, x_shN hk' c1, bs, b3]
      rfl
    · simp only [f_X12_divide, ov_isO, Option.bind_some, np, if_true]
      exact n1 ρ _ _ _ _ _
  rcases sh_cases (v := v5) hR.1 with ⟨t, rfl, ht, c1⟩ | ⟨t, rfl, ht, -⟩
  · have np := m_noPair (a0 := mb) (m_shY hk) (m_shY hk') (m_shN ht c1)
    refine ag_no (k := 1) (y := sz) rfl ho hC hR ?_ (by decide) (by decide) (fun ρ => ⟨uI M 8 1, 0, ?_, Sd.u8, u8_v⟩)
    · simp only [f_L_divide, f_X11_divide, hC.xo, Option.bind_some, x_shelfOk hk, x_shelfOk hk', x_shN ht c1, bs, b3]
      rfl
    · simp only [f_X12_divide, ov_isO, Option.bind_some, np, if_true]
      exact n1 ρ _ _ _ _ _
  have np : f_X12_noPair mb (iI (k : Nat)) (iI (k' : Nat)) (iI (t : Nat)) = some 0 := m_noPair (a0 := mb) (m_shY hk) (m_shY hk') (m_shY ht)
  obtain ⟨w, w1, w2, rfl⟩ := iI_of v3
  by_cases hw : -18 ≤ w ∧ w ≤ 36
  case neg =>
    refine ag_no (k := 2) (y := sz) rfl ho hC hR ?_ (by decide) (by decide) (fun ρ => ⟨uI M 8 2, 0, ?_, Sd.u8, u8_v⟩)
    · simp only [f_L_divide, f_X11_divide, hC.xo, Option.bind_some, x_shelfOk hk, x_shelfOk hk', x_shelfOk ht, x_checkScale ⟨w1, w2⟩, if_neg hw, bs, b3]
      rfl
    · simp only [f_X12_divide, ov_isO, Option.bind_some, np, m_isScale ⟨w1, w2⟩, decide_eq_false hw]
      exact n2 ρ _ _ _ _ _
  by_cases hm0 : okM m = true
  case neg =>
    refine ag_no (k := 2) (y := sz) rfl ho hC hR ?_ (by decide) (by decide) (fun ρ => ⟨uI M 8 2, 0, ?_, Sd.u8, u8_v⟩)
    · simp only [f_L_divide, f_X11_divide, hC.xo, Option.bind_some, x_shelfOk hk, x_shelfOk hk', x_shelfOk ht, x_checkScale ⟨w1, w2⟩, if_pos hw, x_checkMode, if_neg hm0, bs, b3]
      rfl
    · have hm1 : okM m = false := by cases h : okM m <;> simp_all
      simp only [f_X12_divide, ov_isO, Option.bind_some, np, m_isScale ⟨w1, w2⟩, decide_eq_true hw, m_isMode, hm1]
      exact n2 ρ _ _ _ _ _
  rcases ha with ⟨e1, e2⟩ | ⟨p, u, s, e1, hv, hg, hm⟩
  · refine ag_no (k := 3) (y := sz) rfl ho hC hR ?_ (by decide) (by decide) (fun ρ => ⟨uI M 8 3, 0, ?_, Sd.u8, u8_v⟩)
    · simp only [f_L_divide, f_X11_divide, hC.xo, Option.bind_some, x_shelfOk hk, x_shelfOk hk', x_shelfOk ht, x_checkScale ⟨w1, w2⟩, if_pos hw, x_checkMode, if_pos hm0, x_valueOn hC hk, e1, oq, bs, b3]
      rfl
    · simp only [f_X12_divide, ov_isO, Option.bind_some, np, m_isScale ⟨w1, w2⟩, decide_eq_true hw, m_isMode, hm0, oR_5, oA_5, in12 hk, cl12 hk, e2, if_true]
      exact n3 ρ _ _ _ _ _
  rcases ha' with ⟨e1', e2'⟩ | ⟨p', u', s', e1', hv', hg', hm'⟩
  · refine ag_no (k := 3) (y := sz) rfl ho hC hR ?_ (by decide) (by decide) (fun ρ => ⟨uI M 8 3, 0, ?_, Sd.u8, u8_v⟩)
    · simp only [f_L_divide, f_X11_divide, hC.xo, Option.bind_some, x_shelfOk hk, x_shelfOk hk', x_shelfOk ht, x_checkScale ⟨w1, w2⟩, if_pos hw, x_checkMode, if_pos hm0, x_valueOn hC hk, x_valueOn hC hk', e1, e1', oq, bs, b3]
      rfl
    · simp only [f_X12_divide, ov_isO, Option.bind_some, np, m_isScale ⟨w1, w2⟩, decide_eq_true hw, m_isMode, hm0, oR_5, oA_5, in12 hk, cl12 hk, in12 hk', cl12 hk', hm.1, e2', if_true]
      exact n3 ρ _ _ _ _ _
  have ⟨r1, r2, r3, r4⟩ := hg
  have ⟨t1, t2, t3, t4⟩ := hg'
  have hvo : VO (spO u s u' s' w m) σ sz (f_X10_over N σ sz p p' (iI w) m) := x_over hv hv' hg hg' hF hw hm0 (by omega)
  have hx := vo_digits (t := t) (N := N) hC hF hR hvo ht (fun a b e => spO_rg e) (by omega)
  refine ag_val (code := 4) (F := fun j6 τ3 y4 => if j6 = 0 then some (1, τ3, y4) else if j6 = 1 then some (2, τ3, y4) else if j6 = 2 then some (3, τ3, y4) else if j6 = 3 then some (4, τ3, y4) else none) rfl ho hx (by decide) (by decide) (fun τ y => rfl) ?_ (fun ρ => ?_)
  · simp only [f_L_divide, f_X11_divide, hC.xo, Option.bind_some, x_shelfOk hk, x_shelfOk hk', x_shelfOk ht, x_checkScale ⟨w1, w2⟩, if_pos hw, x_checkMode, if_pos hm0, x_valueOn hC hk, x_valueOn hC hk', e1, e1', oq, bs, hv.io]
  · have z0 : iL u' = 0 ↔ u' = 0 := by rw [iL_lit 0, iL_eq ⟨by omega, by omega⟩ ⟨by decide, by decide⟩]; rfl
    simp only [f_X12_divide, ov_isO, Option.bind_some, np, m_isScale ⟨w1, w2⟩, decide_eq_true hw, m_isMode, hm0, oR_5, oA_5, in12 hk, cl12 hk, in12 hk', cl12 hk', hm.1, hm'.1, if_true, oR_3, oA_3, hm'.2.1]
    by_cases h0 : u' = 0
    · have key : MR (spO u s u' s' w m) 4 (fun u _ => iI (dgN u.natAbs : Nat)) mb M ρ t (b_X12_divide_73 N (ov mb M ρ) mb (iI (k : Nat)) (iI (k' : Nat)) (iI w) m (iI (t : Nat)) 4 mb) := by
        refine Or.inl ⟨?_, uI M 8 4, n4 ρ _ _ _ _ _, Sd.u8, u8_v⟩
        unfold spO
        rw [if_pos h0]
      rw [if_pos (z0.mpr h0)]
      exact key
    rw [if_neg (fun v => h0 (z0.mp v))]
    show MR _ 4 _ mb M ρ t (b_X12_divide_73 N (ov mb M ρ) mb (iI (k : Nat)) (iI (k' : Nat)) (iI w) m (iI (t : Nat)) 0 mb)
    have m8 : MV (uI M 8 0) k u s := hm
    have m8' : MV (uI M 8 0) k' u' s' := hm'
    obtain ⟨P, hP⟩ : ∃ P : Int, P = s' - s + w := ⟨_, rfl⟩
    have eP : w - s + s' = P := by omega
    -- the numbers in their rows
    have g0 : MV (uI (uI M 8 0) 2 0) k u s := hm
    have g0' : MV (uI (uI M 8 0) 2 0) k' u' s' := hm'
    obtain ⟨M1, a1, a2, a3⟩ := m_lets (mb := mb) (M := uI (uI M 8 0) 2 0) (σ := ρ) (r := 0) (z := u) (N := N) (by decide) ⟨by omega, by omega⟩ (by omega)
    have hn : nd u.natAbs ≤ 18 := nd_le.mp (by omega)
    have hn' : nd u'.natAbs ≤ 18 := nd_le.mp (by omega)
    obtain ⟨M2, b1, b2', b3'⟩ := m_shifts (mb := mb) (M := M1) (σ := ρ) (r := 0) (z := P) (N := N) (by decide) ⟨by omega, by omega⟩ a3 (Or.inr (by omega)) (by omega)
    obtain ⟨M3, c1, c2, c3⟩ := m_lets (mb := mb) (M := M2) (σ := ρ) (r := 1) (z := u') (N := N) (by decide) ⟨by omega, by omega⟩ (by omega)
    obtain ⟨M4, d1, d2, d3⟩ := m_shifts (mb := mb) (M := M3) (σ := ρ) (r := 1) (z := -P) (N := N) (by decide) ⟨by omega, by omega⟩ c3 (Or.inr (by omega)) (by omega)
    have x4 := d2.Hv (r := 0) (by decide) (c2.Hv (r := 0) (by decide) b3')
    have f4 : M4.1 2 = 0 := by rw [d2.1, c2.1, b2'.1, a2.1, uI_v, if_pos rfl]
    have S0 : Sc (uI M 8 0) (uI (uI M 8 0) 2 0) := Sc.ui
    have S2 : Sc (uI M 8 0) M2 := (S0.tr a2.sc).tr b2'.sc
    have S4 : Sc (uI M 8 0) M4 := (S2.tr c2.sc).tr d2.sc
    have sz1 : nd (u.natAbs * 10 ^ P.toNat) ≤ 239 := by
      have n2 := nd_mul u.natAbs (10 ^ P.toNat)
      have n3 : nd (10 ^ P.toNat) ≤ P.toNat + 1 := nd_le.mp (by rw [Nat.pow_succ]; have := pow10_pos P.toNat; omega)
      omega
    have sz2 : nd (u'.natAbs * 10 ^ (-P).toNat) ≤ 230 := by
      have n2 := nd_mul u'.natAbs (10 ^ (-P).toNat)
      have n3 : nd (10 ^ (-P).toNat) ≤ (-P).toNat + 1 := nd_le.mp (by rw [Nat.pow_succ]; have := pow10_pos (-P).toNat; omega)
      omega
    obtain ⟨M5, q1, q2, q3, q4⟩ := m_rounds (mb := mb) (M := M4) (σ := ρ) (neg := xr u u') (m := m) (N := N) x4 d3 (Nat.mul_pos (by omega) (pow10_pos _)) sz1 sz2 (Or.inl f4) (by omega)
    rw [f4] at q3
    have S5 : Sc (uI M 8 0) M5 := S4.tr q2
    have e1 : f_X12_lets N (ov mb (uI (uI M 8 0) 2 0) ρ) mb 0 (iL u) = some ((), ov mb M1 ρ) := a1
    have e2 : f_X12_shifts N (ov mb M1 ρ) mb 0 (iI P) = some ((), ov mb M2 ρ) := b1
    have e3 : f_X12_lets N (ov mb M2 ρ) mb 1 (iL u') = some ((), ov mb M3 ρ) := c1
    have e4 : f_X12_shifts N (ov mb M3 ρ) mb 1 (iI (-P)) = some ((), ov mb M4 ρ) := d1
    have m2' := m8'.sc S2
    have key := m_lays (mb := mb) (M := M5) (σ := ρ) (k := t) (r := 2) (b := xr u u') (s := w) (N := N) ht (by decide) q4 ⟨by omega, by omega⟩ (by omega)
    have e216 : ∀ c : Nat, c = 4 → ∀ M3 : MS, b_X12_divide_216 N (ov mb M3 ρ) mb (iI (t : Nat)) (iI (c : Nat)) mb = some (0, ov mb (uI M3 8 (iI (c : Nat))) ρ) := by
      intro c hc M3
      subst hc
      unfold b_X12_divide_216
      simp only [ov_isO, Option.bind_some, m_fails (show 4 < 100 by decide), b2]
      rfl
    have e138 : MR (spO u s u' s' w m) 4 (fun u _ => iI (dgN u.natAbs : Nat)) mb M ρ t (b_X12_divide_138 N (ov mb (uI M 8 0) ρ) mb (iI (k : Nat)) (iI (k' : Nat)) (iI w) m (iI (t : Nat)) (iI P) (bI (xr u u'))) := by
      unfold b_X12_divide_138 spO spR
      simp only [oP_2, Option.bind_some, oR_3, oA_3, in12 hk, cl12 hk, in12 hk', cl12 hk', if_true, g0.2.1, ov_isO, b2, e1, e2, m2'.2.1, e3, iI_neg, e4, q1, oI_2, q3]
      rw [if_neg h0, eP]
      by_cases h9 : (u.natAbs * 10 ^ P.toNat) % (u'.natAbs * 10 ^ (-P).toNat) ≠ 0 ∧ m = 110
      · rw [if_pos h9, if_pos h9, if_neg (by decide)]
        refine Or.inl ⟨rfl, uI M5 8 4, ?_, (Sd.u8.tr S5.sd).tr Sd.u8, u8_v⟩
        exact e216 4 rfl M5
      · rw [if_neg h9, if_neg h9, if_pos rfl]
        have fin := MR_end (r := chk (sgn (xr u u') (rq (xr u u') m (u.natAbs * 10 ^ P.toNat) (u'.natAbs * 10 ^ (-P).toNat))) w) (code := 4) (ans := fun u _ => iI (dgN u.natAbs : Nat)) (mb := mb) (M := M) (M1 := M5) (σ := ρ) (t := t) (E := fun c τ => b_X12_divide_216 N τ mb (iI (t : Nat)) c mb) (by decide) (by decide) (Sd.u8.tr S5.sd) (fun c M3 hc => e216 c hc M3) ?_
        · rw [← key] at fin
          exact fin
        · intro u2 s2 M3 hr hm3
          have ⟨g1, g2, g3, g4⟩ := (chk_rg hr).1
          unfold b_X12_divide_216
          simp only [ov_isO, Option.bind_some, ff0, b2, if_true, oR_3, oA_3, in12 ht, cl12 ht, hm3.u8.2.1, m_digitsOf (N := N) ⟨show -9223372036854775808 < u2 by omega, by omega⟩ (by omega)]
    have e114 : ∀ b : Bool, b_X12_divide_114 N (ov mb (uI M 8 0) ρ) mb (iI (k : Nat)) (iI (k' : Nat)) (iI w) m (iI (t : Nat)) (iI P) (bI b) = b_X12_divide_138 N (ov mb (uI M 8 0) ρ) mb (iI (k : Nat)) (iI (k' : Nat)) (iI w) m (iI (t : Nat)) (iI P) (bI (b != ng u')) := by
      intro b
      unfold b_X12_divide_114
      simp only [oR_3, oA_3, Option.bind_some, in12 hk', cl12 hk', if_true, m8'.2.1]
      rw [x_ng ⟨by omega, by omega⟩]
      unfold b_X12_divide_130
      cases ng u' <;> cases b <;> rfl
    unfold b_X12_divide_73
    simp only [ov_isO, Option.bind_some, ff0, b2, if_true, oR_4, oA_4, in12 hk, cl12 hk, in12 hk', cl12 hk', m8.2.2, m8'.2.2, lt_, iI_sub, iI_add, ← hP, oR_3, oA_3, m8.2.1]
    rw [x_ng ⟨by omega, by omega⟩]
    have fin := e114 (ng u)
    rw [show (ng u != ng u') = xr u u' from rfl] at fin
    rw [← fin] at e138
    revert e138
    cases ng u <;> exact id
