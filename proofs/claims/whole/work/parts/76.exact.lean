/-! ===== divideExactly ===== -/
theorem sg_dv {b : Bool} {n d : Nat} (hn : n < 9223372036854775808) (hd : d < 9223372036854775808) : iL (sgn b n) / iL (d : Nat) = iL (sgn b (n / d)) ∧ (iL (sgn b n) - iL (sgn b n) / iL (d : Nat) * iL (d : Nat) = 0 ↔ n % d = 0) := by
  have h1 : iL (sgn b n) / iL (d : Nat) = iL (sgn b (n / d)) := by
    rw [iL_div ⟨by unfold sgn; cases b <;> simp <;> omega, by unfold sgn; cases b <;> simp <;> omega⟩ ⟨by omega, by omega⟩]
    congr 1
    unfold sgn
    cases b
    · rw [if_neg (by decide), if_neg (by decide), Int.tdiv_eq_ediv_of_nonneg (by omega), Int.natCast_ediv]
    · rw [if_pos rfl, if_pos rfl, Int.neg_tdiv, Int.tdiv_eq_ediv_of_nonneg (by omega), Int.natCast_ediv]
  refine ⟨h1, ?_⟩
  rw [h1, iL_mul, iL_sub, iL_lit 0]
  have dm := Nat.div_add_mod n d
  have ml : n % d ≤ n := Nat.mod_le _ _
  have e : sgn b n - sgn b (n / d) * ((d : Nat) : Int) = sgn b (n % d) := by
    have dm' : ((d : Nat) : Int) * ((n / d : Nat) : Int) + ((n % d : Nat) : Int) = (n : Int) := by
      rw [← Int.natCast_mul, ← Int.natCast_add, dm]
    unfold sgn
    cases b
    · rw [if_neg (by decide), if_neg (by decide), if_neg (by decide), Int.mul_comm]
      omega
    · rw [if_pos rfl, if_pos rfl, if_pos rfl, Int.neg_mul, Int.mul_comm]
      omega
  have hb := sgn_abs b (n % d)
  rw [e, iL_eq ⟨by omega, by omega⟩ ⟨by decide, by decide⟩]
  omega
theorem m_common_body {NN : Nat} {x y : Int} (hx : x.natAbs ≤ 1000000000000000000) (hy : y.natAbs ≤ 1000000000000000000) (K : Int64 × Int64 → Option Int64) : b_X12_common_6_body NN K (iL x) (iL y) = if y = 0 then some (iL (x.natAbs : Nat)) else K (iL y, iL (x.tmod y)) := by
  unfold b_X12_common_6_body
  have z : iL y = 0 ↔ y = 0 := by rw [show (0 : Int64) = iL 0 from rfl, iL_eq ⟨by omega, by omega⟩ ⟨by decide, by decide⟩]
  by_cases h0 : y = 0
  · rw [if_pos (z.mpr h0), if_pos h0]
    have ge : 0 ≤ iL x ↔ 0 ≤ x := by rw [show (0 : Int64) = iL 0 from rfl, iL_le ⟨by decide, by decide⟩ ⟨by omega, by omega⟩]
    by_cases hp : 0 ≤ x
    · rw [if_pos (ge.mpr hp)]
      exact congrArg (fun v => some (iL v)) (by omega)
    · rw [if_neg (fun w => hp (ge.mp w)), iL_neg]
      exact congrArg (fun v => some (iL v)) (by omega)
  · rw [if_neg (fun w => h0 (z.mp w)), if_neg (fun w => h0 (z.mp w)), if_neg h0]
    dsimp only [lt_]
    rw [iL_div ⟨by omega, by omega⟩ ⟨by omega, by omega⟩, iL_mul, iL_sub, Int.tmod_def, Int.mul_comm]
theorem m_common_loop : ∀ (N NN : Nat) (x y : Int), x.natAbs ≤ 1000000000000000000 → y.natAbs ≤ 1000000000000000000 → y.natAbs < N → lp (fun k e => b_X12_common_6_body NN k e.1 e.2) N (iL x, iL y) = some (iL (Nat.gcd x.natAbs y.natAbs : Nat)) := by
  intro N
  induction N with
  | zero => intro NN x y _ _ h; omega
  | succ N ih =>
    intro NN x y hx hy hN
    rw [lp_s]
    dsimp only
    rw [m_common_body hx hy]
    by_cases h0 : y = 0
    · rw [if_pos h0, h0, Int.natAbs_zero, Nat.gcd_zero_right]
    · have m := Int.natAbs_tmod x y
      have lt : x.natAbs % y.natAbs < y.natAbs := Nat.mod_lt _ (by omega)
      rw [if_neg h0, ih NN y (x.tmod y) hy (by omega) (by omega), m, Nat.gcd_comm x.natAbs y.natAbs, Nat.gcd_rec y.natAbs x.natAbs, Nat.gcd_comm]
theorem spE_rg {u s u' s' a b : Int} (h : spE u s u' s' = some (a, b)) : RgV a b := by
  unfold spE at h
  by_cases h0 : u' = 0
  · rw [if_pos h0] at h; cases h
  · rw [if_neg h0] at h
    by_cases h1 : cc u.natAbs u'.natAbs = 1
    · rw [if_pos h1] at h; exact (chk_rg h).1
    · rw [if_neg h1] at h; cases h
section DE
variable {mb N : Nat} {M : MS} {ρ : Sto} {k k' t : Nat} {v4 v5 : Int32} {b : Bool} {x y : Nat}
theorem m_fives (hy : 0 < y) (hy2 : y ≤ 999999999999999999) (hN : 1000 ≤ N) : b_X12_divideExactly_173 N (ov mb M ρ) mb (iI (k : Nat)) (iI (k' : Nat)) (iI (t : Nat)) v4 v5 (iL (sgn b (dr x y / 2 ^ aa x y))) (iI (aa x y : Nat)) 0 = b_X12_divideExactly_220 N (ov mb M ρ) mb (iI (k : Nat)) (iI (k' : Nat)) (iI (t : Nat)) v4 v5 (iI (aa x y : Nat)) (iI (bb x y : Nat)) (if cc x y = 1 then 0 else 3) mb := by
  obtain ⟨a60, b60, k60⟩ := @kk_lt x y hy hy2
  have hd := dr_le x y
  have hp := @dr_pos x y hy
  obtain ⟨n, hn⟩ : ∃ n, n = dr x y / 2 ^ aa x y := ⟨_, rfl⟩
  have hnn : n ≤ dr x y := by rw [hn]; exact Nat.div_le_self _ _
  have hn0 : n ≠ 0 := by rw [hn]; exact (mu_end (p := 2) (n := dr x y) (by decide) (by omega)).1
  have hb : bb x y = mu 5 n := by rw [hn]; rfl
  have hc : cc x y = n / 5 ^ bb x y := by rw [hn]; rfl
  rw [← hn]
  unfold b_X12_divideExactly_173
  have five : ∀ j : Nat, (iL (sgn b (n / 5 ^ j)) - iL (sgn b (n / 5 ^ j)) / 5 * 5 = 0 ↔ n / 5 ^ j % 5 = 0) ∧ iL (sgn b (n / 5 ^ j)) / 5 = iL (sgn b (n / 5 ^ (j + 1))) := by
    intro j
    have hle : n / 5 ^ j ≤ n := Nat.div_le_self _ _
    obtain ⟨s1, s2⟩ := sg_dv (b := b) (n := n / 5 ^ j) (d := 5) (by omega) (by decide)
    rw [Nat.div_div_eq_div_mul, ← Nat.pow_succ] at s1
    exact ⟨s2, s1⟩
  have st0 : iL (sgn b n) = iL (sgn b (n / 5 ^ 0)) := by rw [Nat.pow_zero, Nat.div_one]
  rw [st0]
  refine lp_for (n := bb x y) (st := fun j => (ov mb M ρ, mb, iI (k : Nat), iI (k' : Nat), iI (t : Nat), v4, v5, iL (sgn b (n / 5 ^ j)), iI (aa x y : Nat), iI (j : Nat))) (fun j hj KK => ?_) (fun KK => ?_) N 0 (Nat.zero_le _) (by omega)
  · dsimp only
    unfold b_X12_divideExactly_173_body
    have hm := mu_in (p := 5) (n := n) (by decide) (show j < mu 5 n by omega)
    rw [if_pos ((five j).1.mpr hm.2), (five j).2]
    dsimp only [lt_]
    rw [jI_s]
  · dsimp only
    have hm := mu_end (p := 5) (n := n) (by decide) hn0
    rw [← hb, ← hc] at hm
    have hle : cc x y ≤ n := by rw [hc]; exact Nat.div_le_self _ _
    unfold b_X12_divideExactly_173_body b_X12_divideExactly_215
    have nf := (five (bb x y)).1
    rw [← hc] at nf ⊢
    rw [if_neg (fun w => hm.2 (nf.mp w))]
    have hsa := sgn_abs b (cc x y)
    have e1 : iL (sgn b (cc x y)) = 1 ↔ sgn b (cc x y) = 1 := by rw [show (1 : Int64) = iL 1 from rfl, iL_eq ⟨by omega, by omega⟩ ⟨by decide, by decide⟩]
    have e2 : iL (sgn b (cc x y)) = -1 ↔ sgn b (cc x y) = -1 := by rw [show (-1 : Int64) = iL (-1) from rfl, iL_eq ⟨by omega, by omega⟩ ⟨by decide, by decide⟩]
    by_cases h1 : cc x y = 1
    · rw [if_pos h1]
      cases hbb : b with
      | false => rw [if_pos]; rw [h1]; rfl
      | true =>
        rw [if_neg, if_pos]
        · rw [h1]; rfl
        · rw [h1]; decide
    · rw [if_neg h1, if_neg (fun w => by have := e1.mp w; omega), if_neg (fun w => by have := e2.mp w; omega)]
theorem m_twos (hy : 0 < y) (hy2 : y ≤ 999999999999999999) (hN : 1000 ≤ N) : b_X12_divideExactly_148 N (ov mb M ρ) mb (iI (k : Nat)) (iI (k' : Nat)) (iI (t : Nat)) v4 v5 (iL (sgn b (dr x y))) 0 0 = b_X12_divideExactly_220 N (ov mb M ρ) mb (iI (k : Nat)) (iI (k' : Nat)) (iI (t : Nat)) v4 v5 (iI (aa x y : Nat)) (iI (bb x y : Nat)) (if cc x y = 1 then 0 else 3) mb := by
  rw [← m_fives (b := b) hy hy2 hN]
  obtain ⟨a60, b60, k60⟩ := @kk_lt x y hy hy2
  have hd := dr_le x y
  have hp := @dr_pos x y hy
  unfold b_X12_divideExactly_148
  have two : ∀ j : Nat, (iL (sgn b (dr x y / 2 ^ j)) - iL (sgn b (dr x y / 2 ^ j)) / 2 * 2 = 0 ↔ dr x y / 2 ^ j % 2 = 0) ∧ iL (sgn b (dr x y / 2 ^ j)) / 2 = iL (sgn b (dr x y / 2 ^ (j + 1))) := by
    intro j
    have hle : dr x y / 2 ^ j ≤ dr x y := Nat.div_le_self _ _
    obtain ⟨s1, s2⟩ := sg_dv (b := b) (n := dr x y / 2 ^ j) (d := 2) (by omega) (by decide)
    rw [Nat.div_div_eq_div_mul, ← Nat.pow_succ] at s1
    exact ⟨s2, s1⟩
  have st0 : iL (sgn b (dr x y)) = iL (sgn b (dr x y / 2 ^ 0)) := by rw [Nat.pow_zero, Nat.div_one]
  rw [st0]
  refine lp_for (n := aa x y) (st := fun j => (ov mb M ρ, mb, iI (k : Nat), iI (k' : Nat), iI (t : Nat), v4, v5, iL (sgn b (dr x y / 2 ^ j)), iI (j : Nat), 0)) (fun j hj KK => ?_) (fun KK => ?_) N 0 (Nat.zero_le _) (by omega)
  · dsimp only
    unfold b_X12_divideExactly_148_body
    have hm := mu_in (p := 2) (n := dr x y) (by decide) (show j < mu 2 (dr x y) from hj)
    rw [if_pos ((two j).1.mpr hm.2), (two j).2]
    dsimp only [lt_]
    rw [jI_s]
  · dsimp only
    have hm := mu_end (p := 2) (n := dr x y) (by decide) (by omega)
    unfold b_X12_divideExactly_148_body
    rw [if_neg (fun w => hm.2 ((two (aa x y)).1.mp w))]
end DE
theorem p_divideExactly {xb mb ob N : Nat} (hN : 10000000000000000000 ≤ N) : A_divideExactly (I0 xb mb ob) N xb mb ob := by
  intro v1 v2 v3
  refine ag_in (fun n σ sz ni A W K M hn hA ho hC hR hF => ?_)
  subst hA
  have bb2 : ∀ {α β γ : Type} (x : α) (y : β) (f : α → β → Option γ), b2 (some (x, y)) f = f x y := fun _ _ _ => rfl
  have no : ∀ (ρ : Sto) (c : Nat) (v1 v2 v3 : Int32), c ≠ 0 → c < 100 → b_X12_divideExactly_53 N (ov mb M ρ) mb v1 v2 v3 (iI (c : Nat)) mb = some (0, ov mb (uI M 8 (iI (c : Nat))) ρ) := by
    intro ρ c v1 v2 v3 h1 h2
    unfold b_X12_divideExactly_53
    rw [ov_isO, Option.bind_some, m_fails h2, decide_eq_true (by omega)]
    rfl
  have n1 := fun ρ v1 v2 v3 => no ρ 1 v1 v2 v3 (by decide) (by decide)
  have n2 := fun ρ v1 v2 v3 => no ρ 2 v1 v2 v3 (by decide) (by decide)
  have n3 := fun ρ v1 v2 v3 => no ρ 3 v1 v2 v3 (by decide) (by decide)
  have shv : ∀ v : Int32, ∃ a, f_X12_isShelf v = some a := by
    intro v
    obtain ⟨z, z1, z2, rfl⟩ := iI_of v
    exact ⟨_, m_isShelf ⟨z1, z2⟩⟩
  obtain ⟨a1, ha1⟩ := shv v1
  obtain ⟨a2, ha2⟩ := shv v2
  obtain ⟨a5, ha5⟩ := shv v3
  rcases sh_cases (v := v1) hR.1 with ⟨k, rfl, hk, c1⟩ | ⟨k, rfl, hk, ha⟩
  · have np := m_noPair (a0 := mb) (m_shN hk c1) ha2 ha5
    refine ag_no (k := 1) (y := sz) rfl ho hC hR ?_ (by decide) (by decide) (fun ρ => ⟨uI M 8 1, 0, ?_, Sd.u8, u8_v⟩)
    · simp only [f_L_divideExactly, f_X11_divideExactly, hC.xo, Option.bind_some, x_shN hk c1, bs, b3]
      rfl
    · simp only [f_X12_divideExactly, ov_isO, Option.bind_some, np, if_true]
      exact n1 ρ _ _ _
  rcases sh_cases (v := v2) hR.1 with ⟨k', rfl, hk', c1⟩ | ⟨k', rfl, hk', ha'⟩
  · have np := m_noPair (a0 := mb) (m_shY hk) (m_shN hk' c1) ha5
    refine ag_no (k := 1) (y := sz) rfl ho hC hR ?_ (by decide) (by decide) (fun ρ => ⟨uI M 8 1, 0, ?_, Sd.u8, u8_v⟩)
    · simp only [f_L_divideExactly, f_X11_divideExactly, hC.xo, Option.bind_some, x_shelfOk hk, x_shN hk' c1, bs, b3]
      rfl
    · simp only [f_X12_divideExactly, ov_isO, Option.bind_some, np, if_true]
      exact n1 ρ _ _ _
  rcases sh_cases (v := v3) hR.1 with ⟨t, rfl, ht, c1⟩ | ⟨t, rfl, ht, -⟩
  · have np := m_noPair (a0 := mb) (m_shY hk) (m_shY hk') (m_shN ht c1)
    refine ag_no (k := 1) (y := sz) rfl ho hC hR ?_ (by decide) (by decide) (fun ρ => ⟨uI M 8 1, 0, ?_, Sd.u8, u8_v⟩)
    · simp only [f_L_divideExactly, f_X11_divideExactly, hC.xo, Option.bind_some, x_shelfOk hk, x_shelfOk hk', x_shN ht c1, bs, b3]
      rfl
    · simp only [f_X12_divideExactly, ov_isO, Option.bind_some, np, if_true]
      exact n1 ρ _ _ _
  have np : f_X12_noPair mb (iI (k : Nat)) (iI (k' : Nat)) (iI (t : Nat)) = some 0 := m_noPair (a0 := mb) (m_shY hk) (m_shY hk') (m_shY ht)
  rcases ha with ⟨e1, e2⟩ | ⟨p, u, s, e1, hv, hg, hm⟩
  · refine ag_no (k := 2) (y := sz) rfl ho hC hR ?_ (by decide) (by decide) (fun ρ => ⟨uI M 8 2, 0, ?_, Sd.u8, u8_v⟩)
    · simp only [f_L_divideExactly, f_X11_divideExactly, hC.xo, Option.bind_some, x_shelfOk hk, x_shelfOk hk', x_shelfOk ht, x_valueOn hC hk, e1, oq, bs, b3]
      rfl
    · simp only [f_X12_divideExactly, ov_isO, Option.bind_some, np, oR_5, oA_5, in12 hk, cl12 hk, e2, if_true]
      exact n2 ρ _ _ _
  rcases ha' with ⟨e1', e2'⟩ | ⟨p', u', s', e1', hv', hg', hm'⟩
  · refine ag_no (k := 2) (y := sz) rfl ho hC hR ?_ (by decide) (by decide) (fun ρ => ⟨uI M 8 2, 0, ?_, Sd.u8, u8_v⟩)
    · simp only [f_L_divideExactly, f_X11_divideExactly, hC.xo, Option.bind_some, x_shelfOk hk, x_shelfOk hk', x_shelfOk ht, x_valueOn hC hk, x_valueOn hC hk', e1, e1', oq, bs, b3]
      rfl
    · simp only [f_X12_divideExactly, ov_isO, Option.bind_some, np, oR_5, oA_5, in12 hk, cl12 hk, in12 hk', cl12 hk', hm.1, e2', if_true]
      exact n2 ρ _ _ _
  have ⟨r1, r2, r3, r4⟩ := hg
  have ⟨t1, t2, t3, t4⟩ := hg'
  have hvo : VO (spE u s u' s') σ sz (f_X10_exactlyOver N σ sz p p') := x_exactlyOver hv hv' hg hg' hF (by omega)
  have hx := vo_scale (t := t) hC hF hR hvo ht (fun a b e => spE_rg e)
  refine ag_val (code := 3) (F := fun j6 τ3 y4 => if j6 = 0 then some (1, τ3, y4) else if j6 = 2 then some (2, τ3, y4) else if j6 = 3 then some (3, τ3, y4) else none) rfl ho hx (by decide) (by decide) (fun τ y => rfl) ?_ (fun ρ => ?_)
  · simp only [f_L_divideExactly, f_X11_divideExactly, hC.xo, Option.bind_some, x_shelfOk hk, x_shelfOk hk', x_shelfOk ht, x_valueOn hC hk, x_valueOn hC hk', e1, e1', oq, bs, hv.io]
  · have z0 : iL u' = 0 ↔ u' = 0 := by rw [iL_lit 0, iL_eq ⟨by omega, by omega⟩ ⟨by decide, by decide⟩]; rfl
    simp only [f_X12_divideExactly, ov_isO, Option.bind_some, np, oR_5, oA_5, in12 hk, cl12 hk, in12 hk', cl12 hk', hm.1, hm'.1, if_true, oR_3, oA_3, hm'.2.1]
    by_cases h0 : u' = 0
    · have key : MR (spE u s u' s') 3 (fun _ s => iI s) mb M ρ t (b_X12_divideExactly_53 N (ov mb M ρ) mb (iI (k : Nat)) (iI (k' : Nat)) (iI (t : Nat)) 3 mb) := by
        refine Or.inl ⟨?_, uI M 8 3, n3 ρ _ _ _, Sd.u8, u8_v⟩
        unfold spE
        rw [if_pos h0]
      rw [if_pos (z0.mpr h0)]
      exact key
    rw [if_neg (fun v => h0 (z0.mp v))]
    show MR _ 3 _ mb M ρ t (b_X12_divideExactly_53 N (ov mb M ρ) mb (iI (k : Nat)) (iI (k' : Nat)) (iI (t : Nat)) 0 mb)
    have m8 : MV (uI M 8 0) k u s := hm
    have m8' : MV (uI M 8 0) k' u' s' := hm'
    have hy : 0 < u'.natAbs := by omega
    obtain ⟨a60, b60, k60⟩ := @kk_lt u.natAbs u'.natAbs hy (by omega)
    have e220 : MR (spE u s u' s') 3 (fun _ s => iI s) mb M ρ t (b_X12_divideExactly_220 N (ov mb (uI M 8 0) ρ) mb (iI (k : Nat)) (iI (k' : Nat)) (iI (t : Nat)) (bI (xr u u')) (iI (s - s')) (iI (aa u.natAbs u'.natAbs : Nat)) (iI (bb u.natAbs u'.natAbs : Nat)) (if cc u.natAbs u'.natAbs = 1 then 0 else 3) mb) := by
      unfold b_X12_divideExactly_220 spE
      rw [if_neg h0]
      by_cases h1 : cc u.natAbs u'.natAbs = 1
      case neg =>
        rw [if_neg h1, if_neg h1, ov_isO, Option.bind_some, ff3, bb2, if_neg (by decide)]
        exact Or.inl ⟨rfl, _, rfl, Sd.u8.tr Sd.u8, u8_v⟩
      rw [if_pos h1, if_pos h1, ov_isO, Option.bind_some, ff0, bb2, if_pos rfl]
      have g0 : MV (uI (uI M 8 0) 8 0) k u s := hm
      have g0' : MV (uI (uI M 8 0) 8 0) k' u' s' := hm'
      obtain ⟨Q, hQ⟩ : ∃ Q, Q = kk u.natAbs u'.natAbs := ⟨_, rfl⟩
      have gr : f_X12_greater (iI (aa u.natAbs u'.natAbs : Nat)) (iI (bb u.natAbs u'.natAbs : Nat)) = some (iI (Q : Nat)) := by
        rw [m_greater ⟨by omega, by omega⟩ ⟨by omega, by omega⟩]
        have e : mxI (aa u.natAbs u'.natAbs : Nat) (bb u.natAbs u'.natAbs : Nat) = (Q : Int) := by
          have v := mxI_v (aa u.natAbs u'.natAbs : Nat) (bb u.natAbs u'.natAbs : Nat)
          have w := mx_le (aa u.natAbs u'.natAbs) (bb u.natAbs u'.natAbs)
          have hQ' : Q = mx (aa u.natAbs u'.natAbs) (bb u.natAbs u'.natAbs) := hQ
          omega
        rw [e]
      rw [← hQ] at k60 ⊢
      have hn : nd u.natAbs ≤ 18 := nd_le.mp (by omega)
      have hn' : nd u'.natAbs ≤ 18 := nd_le.mp (by omega)
      obtain ⟨M1, a1, a2, a3⟩ := m_lets (mb := mb) (M := uI (uI M 8 0) 8 0) (σ := ρ) (r := 0) (z := u) (N := N) (by decide) ⟨by omega, by omega⟩ (by omega)
      obtain ⟨M2, b1, b2', b3'⟩ := m_shifts (mb := mb) (M := M1) (σ := ρ) (r := 0) (z := (Q : Nat)) (N := N) (by decide) ⟨by omega, by omega⟩ a3 (Or.inr (by show nd u.natAbs + Q ≤ 240; omega)) (by omega)
      have b3'' : Hv M2 0 (u.natAbs * 10 ^ Q) := b3'
      obtain ⟨M3, c1, c2, c3⟩ := m_lets (mb := mb) (M := M2) (σ := ρ) (r := 1) (z := u') (N := N) (by decide) ⟨by omega, by omega⟩ (by omega)
      have x3 := c2.Hv (r := 0) (by decide) b3''
      have sz1 : nd (u.natAbs * 10 ^ Q) ≤ 239 := by
        have n2 := nd_mul u.natAbs (10 ^ Q)
        have n3 : nd (10 ^ Q) ≤ Q + 1 := nd_le.mp (by rw [Nat.pow_succ]; have := pow10_pos Q; omega)
        omega
      obtain ⟨M4, d1, d2, d3, d4⟩ := m_divides (mb := mb) (M := M3) (σ := ρ) (N := N) x3 c3 hy sz1 (by omega) (by omega)
      have S2 : Sc (uI (uI M 8 0) 8 0) M2 := a2.sc.tr b2'.sc
      have S4 : Sc (uI (uI M 8 0) 8 0) M4 := (S2.tr c2.sc).tr d2.sc
      have m2' := g0'.sc S2
      have e1 : f_X12_lets N (ov mb (uI (uI M 8 0) 8 0) ρ) mb 0 (iL u) = some ((), ov mb M1 ρ) := a1
      have e2 : f_X12_shifts N (ov mb M1 ρ) mb 0 (iI (Q : Nat)) = some ((), ov mb M2 ρ) := b1
      have e3 : f_X12_lets N (ov mb M2 ρ) mb 1 (iL u') = some ((), ov mb M3 ρ) := c1
      have key : f_X12_lays N (ov mb M4 ρ) mb (iI (t : Nat)) 2 (bI (xr u u')) (iI (s - s' + (Q : Int))) = mL mb M4 ρ t (chk (sgn (xr u u') (u.natAbs * 10 ^ Q / u'.natAbs)) (s - s' + (Q : Int))) := m_lays (mb := mb) (M := M4) (σ := ρ) (k := t) (r := 2) (b := xr u u') (s := s - s' + (Q : Int)) (N := N) ht (by decide) d3 ⟨by omega, by omega⟩ (by omega)
      simp only [gr, Option.bind_some, oR_3, oA_3, in12 hk, cl12 hk, in12 hk', cl12 hk', if_true, g0.2.1, ov_isO, e1, bb2, e2, m2'.2.1, e3, d1, iI_add, key]
      refine MR_end (code := 3) (E := fun c τ => b_X12_divideExactly_292 N τ mb (iI (t : Nat)) c mb) (by decide) (by decide) ((Sd.u8.tr Sd.u8).tr S4.sd) ?_ ?_
      · intro c M3 hc
        subst hc
        unfold b_X12_divideExactly_292
        rw [ov_isO, Option.bind_some, m_fails (show 3 < 100 by decide), bb2]
        rfl
      · intro u2 s2 M3 hr hm3
        unfold b_X12_divideExactly_292
        rw [ov_isO, Option.bind_some, ff0, bb2, if_pos rfl, oR_4, Option.bind_some, oA_4, in12 ht, if_pos rfl, cl12 ht, Option.bind_some, hm3.u8.2.2]
    have e101 : MR (spE u s u' s') 3 (fun _ s => iI s) mb M ρ t (b_X12_divideExactly_101 N (ov mb (uI M 8 0) ρ) mb (iI (k : Nat)) (iI (k' : Nat)) (iI (t : Nat)) (bI (xr u u'))) := by
      have cm : f_X12_common N (iL u) (iL u') = some (iL (Nat.gcd u.natAbs u'.natAbs : Nat)) := by
        unfold f_X12_common b_X12_common_6
        exact m_common_loop N N u u' (by omega) (by omega) (by omega)
      have gp : 0 < Nat.gcd u.natAbs u'.natAbs := Nat.gcd_pos_of_pos_right _ hy
      have gl : Nat.gcd u.natAbs u'.natAbs ≤ u'.natAbs := Nat.gcd_le_right _ hy
      have dv : iL u' / iL (Nat.gcd u.natAbs u'.natAbs : Nat) = iL (sgn (ng u') (dr u.natAbs u'.natAbs)) := by
        have := (sg_dv (b := ng u') (n := u'.natAbs) (d := Nat.gcd u.natAbs u'.natAbs) (by omega) (by omega)).1
        rw [sgn_ng] at this
        exact this
      unfold b_X12_divideExactly_101
      simp only [oR_4, oA_4, oR_3, oA_3, in12 hk, cl12 hk, in12 hk', cl12 hk', if_true, Option.bind_some, m8.2.2, m8'.2.2, m8.2.1, m8'.2.1, cm, lt_, iI_sub, dv]
      rw [if_neg (fun w => by rw [iL_lit 0, jL_eq (by omega) (by decide)] at w; omega), m_twos hy (by omega) (by omega)]
      exact e220
    have e77 : ∀ b : Bool, b_X12_divideExactly_77 N (ov mb (uI M 8 0) ρ) mb (iI (k : Nat)) (iI (k' : Nat)) (iI (t : Nat)) (bI b) = b_X12_divideExactly_101 N (ov mb (uI M 8 0) ρ) mb (iI (k : Nat)) (iI (k' : Nat)) (iI (t : Nat)) (bI (b != ng u')) := by
      intro b
      unfold b_X12_divideExactly_77
      simp only [oR_3, oA_3, Option.bind_some, in12 hk', cl12 hk', if_true, m8'.2.1]
      rw [x_ng ⟨by omega, by omega⟩]
      unfold b_X12_divideExactly_93
      cases ng u' <;> cases b <;> rfl
    unfold b_X12_divideExactly_53
    simp only [ov_isO, Option.bind_some, ff0, b2, if_true, oR_3, oA_3, in12 hk, cl12 hk, m8.2.1]
    rw [x_ng ⟨by omega, by omega⟩]
    have fin := e77 (ng u)
    rw [show (ng u != ng u') = xr u u' from rfl] at fin
    rw [← fin] at e101
    revert e101
    cases ng u <;> exact id
