/-! ===== values of the class: order, other scales ===== -/
theorem dg_lt {n : Nat} : n < 10 ^ dgN n := (dgN_le (dgN_pos n)).mp (Nat.le_refl _)
theorem dg_ge {n : Nat} (h : n ≠ 0) : 10 ^ (dgN n - 1) ≤ n := by
  unfold dgN
  rw [if_neg h]
  exact nd_lt.mp (by rw [nd_s h]; omega)
theorem dg_18 {n : Nat} (h : n ≤ 999999999999999999) : dgN n ≤ 18 := (dgN_le (by decide)).mpr (Nat.lt_of_le_of_lt h (by decide))
/-- of the place of the first digit -/
theorem al_hgt {u s u' s' S : Int} (h : u ≠ 0) (h1 : s ≤ S) (h2 : s' ≤ S) (hh : (dgN u'.natAbs : Int) - s' < (dgN u.natAbs : Int) - s) : (al u' s' S).natAbs < (al u s S).natAbs := by
  rw [al_abs, al_abs]
  have a1 : u'.natAbs * 10 ^ (S - s').toNat < 10 ^ (dgN u'.natAbs + (S - s').toNat) := by
    rw [Nat.pow_add]
    exact Nat.mul_lt_mul_of_pos_right dg_lt (pow10_pos _)
  have a2 : 10 ^ (dgN u.natAbs - 1 + (S - s).toNat) ≤ u.natAbs * 10 ^ (S - s).toNat := by
    rw [Nat.pow_add]
    exact Nat.mul_le_mul_right _ (dg_ge (by omega))
  have a3 : 10 ^ (dgN u'.natAbs + (S - s').toNat) ≤ 10 ^ (dgN u.natAbs - 1 + (S - s).toNat) := Nat.pow_le_pow_right (by decide) (by have := dgN_pos u.natAbs; omega)
  omega
def cmpI (a b : Int) : Int := if a < b then -1 else if a = b then 0 else 1
theorem cmpI_v (x y : Int) : (x < y ∧ cmpI x y = -1) ∨ (x = y ∧ cmpI x y = 0) ∨ (y < x ∧ cmpI x y = 1) := by
  unfold cmpI
  by_cases h : x < y
  · exact Or.inl ⟨h, if_pos h⟩
  · rw [if_neg h]
    by_cases h2 : x = y
    · exact Or.inr (Or.inl ⟨h2, if_pos h2⟩)
    · exact Or.inr (Or.inr ⟨by omega, if_neg h2⟩)
section XV2
variable {σ : Sto} {sz p q N : Nat} {u s u' s' : Int}
theorem x_sizeOrder (h : Val σ p u s) (h' : Val σ q u' s') (hr : RgV u s) (hr' : RgV u' s') (hN : 30 ≤ N) : ∃ c : Int, f_X10_sizeOrder N σ p q = some (.inr (iI c)) ∧ -1 ≤ c ∧ c ≤ 1 ∧ (u ≠ 0 → u' ≠ 0 → c = cmpN (al u s (mxI s s')).natAbs (al u' s' (mxI s s')).natAbs) := by
  have ⟨r1, r2, r3, r4⟩ := hr
  have ⟨t1, t2, t3, t4⟩ := hr'
  obtain ⟨m1, m2, m3⟩ := mxI_v s s'
  have d1 := dg_18 (n := u.natAbs) (by omega)
  have d2 := dg_18 (n := u'.natAbs) (by omega)
  have d3 := dgN_pos u.natAbs
  have d4 := dgN_pos u'.natAbs
  unfold f_X10_sizeOrder
  rw [h.io, Option.bind_some, x_digits h hr hN, Option.bind_some, h.s, Option.bind_some, h'.io]
  simp only [lt_, Option.bind_some]
  rw [x_digits h' hr' hN, Option.bind_some, h'.s, Option.bind_some, iI_sub, iI_sub]
  by_cases he : (dgN u.natAbs : Int) - s = (dgN u'.natAbs : Int) - s'
  · rw [if_pos (by rw [he])]
    simp only [Option.bind_some]
    rw [x_max ⟨by omega, by omega⟩ ⟨by omega, by omega⟩, x_aligned h hr ⟨by omega, by omega⟩, x_aligned h' hr' ⟨by omega, by omega⟩]
    simp only [Option.bind_some]
    have no : ∀ {v t v' t' : Int}, mxI s s' = t' → t ≤ mxI s s' → (dgN v.natAbs : Int) - t = (dgN v'.natAbs : Int) - t' → dgN v'.natAbs ≤ 18 → ¬ 2000000000000000000 < (al v t (mxI s s')).natAbs := by
      intro v t v' t' k1 k0 k2 k3 k4
      rw [al_abs] at k4
      have a1 : v.natAbs * 10 ^ (mxI s s' - t).toNat < 10 ^ (dgN v.natAbs + (mxI s s' - t).toNat) := by
        rw [Nat.pow_add]
        exact Nat.mul_lt_mul_of_pos_right dg_lt (pow10_pos _)
      have a2 := pw18 (k := dgN v.natAbs + (mxI s s' - t).toNat) (by omega)
      omega
    rcases raR_v hr m1 (by omega) with ⟨e1, g1, k1⟩ | ⟨e1, g1⟩
    · exact absurd g1 (no (v := u) (t := s) (v' := u') (t' := s') (by omega) m1 he d2)
    rcases raR_v hr' m2 (by omega) with ⟨e2, g2, k2⟩ | ⟨e2, g2⟩
    · exact absurd g2 (no (v := u') (t := s') (v' := u) (t' := s) (by omega) m2 he.symm d1)
    rw [e1, e2]
    dsimp only [bs]
    rw [x_abs ⟨by omega, by omega⟩, x_abs ⟨by omega, by omega⟩]
    rcases cmpN_v (al u s (mxI s s')).natAbs (al u' s' (mxI s s')).natAbs with ⟨k, e⟩ | ⟨k, e⟩ | ⟨k, e⟩
    · rw [if_neg (fun w => by rw [jL_eq (by omega) (by omega)] at w; omega), if_neg (fun w => by rw [jL_le (by omega) (by omega)] at w; omega)]
      exact ⟨-1, rfl, by decide, by decide, fun _ _ => e.symm⟩
    · rw [if_pos (by rw [k])]
      exact ⟨0, rfl, by decide, by decide, fun _ _ => e.symm⟩
    · rw [if_neg (fun w => by rw [jL_eq (by omega) (by omega)] at w; omega), if_pos (by rw [jL_le (by omega) (by omega)]; omega)]
      exact ⟨1, rfl, by decide, by decide, fun _ _ => e.symm⟩
  · rw [if_neg (fun w => he (by rw [iI_eq ⟨by omega, by omega⟩ ⟨by omega, by omega⟩] at w; exact w))]
    by_cases hl : (dgN u'.natAbs : Int) - s' ≤ (dgN u.natAbs : Int) - s
    · rw [if_pos (by rw [iI_le ⟨by omega, by omega⟩ ⟨by omega, by omega⟩]; exact hl)]
      refine ⟨1, rfl, by decide, by decide, fun hu hu' => ?_⟩
      have := al_hgt (s' := s') (u' := u') hu m1 m2 (by omega)
      rcases cmpN_v (al u s (mxI s s')).natAbs (al u' s' (mxI s s')).natAbs with ⟨k, e⟩ | ⟨k, e⟩ | ⟨k, e⟩ <;> omega
    · rw [if_neg (fun w => hl (by rw [iI_le ⟨by omega, by omega⟩ ⟨by omega, by omega⟩] at w; exact w))]
      refine ⟨-1, rfl, by decide, by decide, fun hu hu' => ?_⟩
      have := al_hgt (s' := s) (u' := u) hu' m2 m1 (by omega)
      rcases cmpN_v (al u s (mxI s s')).natAbs (al u' s' (mxI s s')).natAbs with ⟨k, e⟩ | ⟨k, e⟩ | ⟨k, e⟩ <;> omega
/-- the order of two values, out of their signs and sizes -/
theorem cmp_sg {a b : Int} {c : Int} (he : sg a = sg b) (hc : a ≠ 0 → b ≠ 0 → c = cmpN a.natAbs b.natAbs) : sg a * c = cmpI a b := by
  have hb := sg_v b
  have hv := cmpI_v a b
  rcases sg_v a with ⟨k, e⟩ | ⟨k, e⟩ | ⟨k, e⟩
  · rw [e, Int.zero_mul]
    omega
  · have hn := cmpN_v a.natAbs b.natAbs
    rw [e, hc (by omega) (by omega)]
    omega
  · have hn := cmpN_v a.natAbs b.natAbs
    rw [e, hc (by omega) (by omega)]
    omega
theorem sg_al (u s S : Int) : sg (al u s S) = sg u := by
  obtain ⟨h1, h2, h3⟩ := al_pos u s S
  rcases sg_v u with ⟨k, e⟩ | ⟨k, e⟩ | ⟨k, e⟩
  · have := h3 k
    rcases sg_v (al u s S) with ⟨j, f⟩ | ⟨j, f⟩ | ⟨j, f⟩ <;> omega
  · have := h2 k
    rcases sg_v (al u s S) with ⟨j, f⟩ | ⟨j, f⟩ | ⟨j, f⟩ <;> omega
  · have := h1 k
    rcases sg_v (al u s S) with ⟨j, f⟩ | ⟨j, f⟩ | ⟨j, f⟩ <;> omega
theorem x_order (h : Val σ p u s) (h' : Val σ q u' s') (hr : RgV u s) (hr' : RgV u' s') (hN : 30 ≤ N) : f_X10_order N σ p q = some (.inr (iI (cmpI (al u s (mxI s s')) (al u' s' (mxI s s'))))) := by
  have g1 := sg_v u
  have g2 := sg_v u'
  unfold f_X10_order
  rw [h.io, Option.bind_some, x_sign h hr, Option.bind_some, h'.io, Option.bind_some, x_sign h' hr', Option.bind_some]
  by_cases he : sg u = sg u'
  · rw [if_pos (by rw [he]), Option.bind_some]
    obtain ⟨c, e, c1, c2, c3⟩ := x_sizeOrder h h' hr hr' hN
    rw [e, Option.bind_some]
    dsimp only [bs]
    rw [iI_mul]
    have z1 := (al_pos u s (mxI s s')).2.2
    have z2 := (al_pos u' s' (mxI s s')).2.2
    have := cmp_sg (a := al u s (mxI s s')) (b := al u' s' (mxI s s')) (c := c) (by rw [sg_al, sg_al]; exact he) (fun k1 k2 => c3 (fun w => k1 (z1 w)) (fun w => k2 (z2 w)))
    rw [sg_al] at this
    rw [this]
  · rw [if_neg (fun w => he (by rw [iI_eq ⟨by omega, by omega⟩ ⟨by omega, by omega⟩] at w; exact w))]
    have a1 := sg_al u s (mxI s s')
    have a2 := sg_al u' s' (mxI s s')
    have b1 := sg_v (al u s (mxI s s'))
    have b2 := sg_v (al u' s' (mxI s s'))
    simp only [Option.bind_some]
    have cv := cmpI_v (al u s (mxI s s')) (al u' s' (mxI s s'))
    by_cases hl : sg u' ≤ sg u
    · rw [if_pos (by rw [iI_le ⟨by omega, by omega⟩ ⟨by omega, by omega⟩]; exact hl)]
      rw [show cmpI (al u s (mxI s s')) (al u' s' (mxI s s')) = 1 by omega]
      rfl
    · rw [if_neg (fun w => hl (by rw [iI_le ⟨by omega, by omega⟩ ⟨by omega, by omega⟩] at w; exact w))]
      rw [show cmpI (al u s (mxI s s')) (al u' s' (mxI s s')) = -1 by omega]
      rfl
theorem x_moved {k : Int} (h : Val σ p u s) (hr : RgV u s) (hk : -20 ≤ k ∧ k ≤ 20) : f_X10_moved σ sz p (iI k) = vQ (chk (al u (s + k) (mxI 0 (s + k))) (mxI 0 (s + k))) σ sz := by
  have ⟨r1, r2, r3, r4⟩ := hr
  have m := mxI_v 0 (s + k)
  unfold f_X10_moved
  rw [h.s, Option.bind_some, iI_add]
  simp only [lt_]
  by_cases h0 : s + k < 0
  · rw [if_pos (by rw [iI_lit 0, iI_lt ⟨by omega, by omega⟩ ⟨by decide, by decide⟩]; exact h0), h.u, Option.bind_some, iI_neg]
    have e : (999999999999999999 : Int64) = iL ((999999999999999999 : Nat) : Int) := iL_lit _
    rw [e, x_raised ⟨by omega, by omega⟩ ⟨by omega, by omega⟩ (by decide), Option.bind_some]
    have e0 : mxI 0 (s + k) = 0 := by omega
    rw [e0]
    have ea : al u (s + k) 0 = u * ((10 ^ (-(s + k)).toNat : Nat) : Int) := by
      unfold al
      rw [Int.zero_sub]
    have eb := al_abs u (s + k) 0
    rw [Int.zero_sub] at eb
    unfold raR
    by_cases hu : u = 0
    · rw [if_pos hu]
      dsimp only [bs]
      rw [(al_pos u (s + k) 0).2.2 hu]
      have := x_checked (σ := σ) (sz := sz) (u := 0) (s := 0) ⟨by decide, by decide⟩ ⟨by decide, by decide⟩
      rw [show (0 : Int64) = iL 0 from rfl, show (0 : Int32) = iI 0 from rfl, this]
      exact vQ_id
    rw [if_neg hu]
    by_cases h1 : -(s + k) < 0 ∨ 18 < -(s + k) ∨ 999999999999999999 < u.natAbs * 10 ^ (-(s + k)).toNat
    · rw [if_pos h1]
      have hb : 999999999999999999 < (al u (s + k) 0).natAbs := by
        rw [eb]
        rcases h1 with h1 | h1 | h1
        · omega
        · have h2 : 10 ^ 19 ≤ 10 ^ (-(s + k)).toNat := Nat.pow_le_pow_right (by decide) (by omega)
          have h3 : 1 * 10 ^ (-(s + k)).toNat ≤ u.natAbs * 10 ^ (-(s + k)).toNat := Nat.mul_le_mul_right _ (by omega)
          omega
        · exact h1
      rw [chk_big hb]
      rfl
    · rw [if_neg h1]
      dsimp only [bs]
      rw [← ea, show (0 : Int32) = iI 0 from rfl, x_checked ⟨by omega, by omega⟩ ⟨by decide, by decide⟩]
      exact vQ_id
  · rw [if_neg (fun w => h0 (by rw [iI_lit 0, iI_lt ⟨by omega, by omega⟩ ⟨by decide, by decide⟩] at w; exact w)), h.u, Option.bind_some, x_checked ⟨by omega, by omega⟩ ⟨by omega, by omega⟩, show mxI 0 (s + k) = s + k by omega, al_0]
    exact vQ_id
/-! roundings -/
def ng (u : Int) : Bool := decide (u < 0)
theorem x_ng {u : Int} (hu : -9223372036854775808 ≤ u ∧ u < 9223372036854775808) {α : Type} (a b : α) : (if 0 ≤ iL u then a else b) = if ng u = true then b else a := by
  unfold ng
  by_cases h : u < 0
  · rw [if_neg (fun w => by rw [iL_lit 0, iL_le ⟨by decide, by decide⟩ hu] at w; omega), if_pos (decide_eq_true h)]
  · rw [if_pos (by rw [iL_lit 0, iL_le ⟨by decide, by decide⟩ hu]; omega), if_neg (fun w => h (of_decide_eq_true w))]
theorem sgn_ng (u : Int) : sgn (ng u) u.natAbs = u := by
  unfold sgn ng
  by_cases h : u < 0
  · rw [decide_eq_true h, if_pos rfl]; omega
  · rw [decide_eq_false h, if_neg (by decide)]; omega
theorem x_sizeCut {k : Nat} {m : Int32} (h : Val σ p u s) (hr : RgV u s) (hk : k ≤ 1000) (hm : okM m = true) : f_X10_sizeCut σ p (iI (k : Nat)) m = some (rqR (ng u) m u.natAbs (10 ^ k)) := by
  have ⟨r1, r2, r3, r4⟩ := hr
  have nn : ¬ iI (k : Nat) < 0 := fun w => by rw [iI_lit 0, jI_lt (by omega) (by omega)] at w; omega
  have fin : ∀ b : Bool, (if b = true then ((f_X6_settled (iL ((u.natAbs / 10 ^ k : Nat) : Int)) (iI ((rst (u.natAbs % 10 ^ k) (10 ^ k) : Nat) : Int)) 1 m).bind fun u2 => bs u2 (fun j3 => some (.inl j3)) fun x1 => some (.inr x1)) else ((f_X6_settled (iL ((u.natAbs / 10 ^ k : Nat) : Int)) (iI ((rst (u.natAbs % 10 ^ k) (10 ^ k) : Nat) : Int)) 0 m).bind fun u2 => bs u2 (fun j3 => some (.inl j3)) fun x1 => some (.inr x1))) = some (rqR b m u.natAbs (10 ^ k)) := by
    intro b
    have hq : u.natAbs / 10 ^ k < 9223372036854775807 := by
      have := Nat.div_le_self u.natAbs (10 ^ k)
      omega
    have key := x_settled (neg := b) hm hq
    cases b with
    | false =>
      rw [if_neg (by decide), show (0 : Int32) = bI false from rfl, key, Option.bind_some]
      cases rqR false m u.natAbs (10 ^ k) <;> rfl
    | true =>
      rw [if_pos rfl, show (1 : Int32) = bI true from rfl, key, Option.bind_some]
      cases rqR true m u.natAbs (10 ^ k) <;> rfl
  unfold f_X10_sizeCut
  rw [if_neg nn]
  by_cases h18 : k ≤ 18
  · have p1 := pw18 h18
    have p2 := pow10_pos k
    have nz : ¬ iL ((10 ^ k : Nat) : Int) = 0 := fun w => by rw [iL_lit 0, jL_eq (by omega) (by omega)] at w; omega
    rw [if_pos (by rw [iI_lit 18, jI_le (by omega) (by omega)]; exact h18), pw_v h18, Option.bind_some, h.io, Option.bind_some, x_size h hr, Option.bind_some, if_neg nz, jL_md (by omega) (by omega), x_rest (Nat.mod_lt _ p2) (by omega), Option.bind_some, Option.bind_some, if_neg nz, h.u, Option.bind_some, jL_dv (by omega) (by omega), x_ng ⟨by omega, by omega⟩]
    exact fin (ng u)
  · have p19 : 10 ^ 19 ≤ 10 ^ k := Nat.pow_le_pow_right (by decide) (by omega)
    have e1 : u.natAbs / 10 ^ k = 0 := Nat.div_eq_of_lt (by omega)
    have e2 : u.natAbs % 10 ^ k = u.natAbs := Nat.mod_eq_of_lt (by omega)
    have rv := rst_v u.natAbs (10 ^ k)
    have fin2 := fin (ng u)
    rw [e1, e2] at fin2
    rw [if_neg (fun w => by rw [iI_lit 18, jI_le (by omega) (by omega)] at w; omega)]
    unfold b_X10_sizeCut_10 b_X10_sizeCut_24 b_X10_sizeCut_41
    rw [h.u, Option.bind_some]
    simp only [Option.bind_some]
    rw [x_ng ⟨by omega, by omega⟩, x_ng ⟨by omega, by omega⟩]
    by_cases h0 : u = 0
    · rw [if_pos (by rw [h0]; rfl)]
      rw [show rst u.natAbs (10 ^ k) = 0 by omega] at fin2
      exact fin2
    · rw [if_neg (fun w => h0 (by rw [iL_lit 0, iL_eq ⟨by omega, by omega⟩ ⟨by decide, by decide⟩] at w; exact w))]
      rw [show rst u.natAbs (10 ^ k) = 1 by omega] at fin2
      exact fin2
/-- a quotient, rounded, with a sign, as a value of a scale -/
def spR (neg : Bool) (m : Int32) (x y : Nat) (w : Int) : Option (Int × Int) := if x % y ≠ 0 ∧ m = 110 then none else chk (sgn neg (rq neg m x y)) w
theorem rq_le (neg : Bool) (m : Int32) (x y : Nat) : x / y ≤ rq neg m x y ∧ rq neg m x y ≤ x / y + 1 := by
  unfold rq
  by_cases h : x % y ≠ 0 ∧ rUp neg m (x / y) (x % y) y = true
  · rw [if_pos h]; omega
  · rw [if_neg h]; omega
theorem rq_ex {neg : Bool} {m : Int32} {x y : Nat} (h : x % y = 0) : rq neg m x y = x / y := by
  unfold rq
  rw [if_neg (fun w => w.1 h)]
theorem sgn_abs (b : Bool) (n : Nat) : (sgn b n).natAbs = n := by
  unfold sgn
  cases b
  · rw [if_neg (by decide)]; omega
  · rw [if_pos rfl]; omega
/-- what the class makes of a rounded quotient -/
theorem x_signedR {b : Bool} {neg : Bool} {m : Int32} {x y : Nat} {w : Int} (hq : x / y < 9223372036854775807) (hw : -2147483648 ≤ w ∧ w < 2147483648) : (bs (rqR neg m x y) (fun j5 => some (.inl j5, σ, sz)) fun x3 => b3 (f_X10_signed σ sz (bI b) x3 (iI w)) fun u9 τ7 y8 => bs u9 (fun j10 => some (.inl j10, τ7, y8)) fun p6 => some (.inr p6, τ7, y8)) = vQ (if x % y ≠ 0 ∧ m = 110 then none else chk (sgn b (rq neg m x y)) w) σ sz := by
  have := rq_le neg m x y
  unfold rqR
  by_cases h : x % y ≠ 0 ∧ m = 110
  · rw [if_pos h, if_pos h]; rfl
  · rw [if_neg h, if_neg h]
    dsimp only [bs]
    rw [x_signed (by omega) hw]
    exact vQ_id
theorem x_toScale {w : Int} {m : Int32} (h : Val σ p u s) (hr : RgV u s) (hw : -18 ≤ w ∧ w ≤ 36) (hm : okM m = true) : f_X10_toScale σ sz p (iI w) m = vQ (spR (ng u) m (u.natAbs * 10 ^ (w - s).toNat) (10 ^ (s - w).toNat) w) σ sz := by
  have ⟨r1, r2, r3, r4⟩ := hr
  unfold f_X10_toScale
  rw [h.s, Option.bind_some]
  by_cases h0 : w < s
  · rw [if_pos (by rw [iI_lt ⟨by omega, by omega⟩ ⟨by omega, by omega⟩]; exact h0), h.u, Option.bind_some, x_ng ⟨by omega, by omega⟩]
    have e : (w - s).toNat = 0 := by omega
    obtain ⟨k, hk⟩ : ∃ k : Nat, s - w = k := ⟨(s - w).toNat, by omega⟩
    have key : b_X10_toScale_43 σ sz p (iI w) m (bI (ng u)) = vQ (spR (ng u) m u.natAbs (10 ^ k) w) σ sz := by
      unfold b_X10_toScale_43
      rw [h.s, Option.bind_some, h.io, Option.bind_some, iI_sub, hk, x_sizeCut h hr (by omega) hm, Option.bind_some]
      exact x_signedR (by have := Nat.div_le_self u.natAbs (10 ^ k); omega) ⟨by omega, by omega⟩
    rw [e, Nat.pow_zero, Nat.mul_one, hk, Int.toNat_natCast, ← key]
    cases ng u <;> rfl
  · rw [if_neg (fun q => h0 (by rw [iI_lt ⟨by omega, by omega⟩ ⟨by omega, by omega⟩] at q; exact q)), h.u, Option.bind_some, Option.bind_some, iI_sub]
    have e : (999999999999999999 : Int64) = iL ((999999999999999999 : Nat) : Int) := iL_lit _
    rw [e, x_raised ⟨by omega, by omega⟩ ⟨by omega, by omega⟩ (by decide), Option.bind_some]
    have e2 : (s - w).toNat = 0 := by omega
    rw [e2, Nat.pow_zero]
    unfold spR
    rw [if_neg (fun q => q.1 (Nat.mod_one _)), rq_ex (Nat.mod_one _), Nat.div_one, ← al_abs]
    have es : sgn (ng u) (al u s w).natAbs = al u s w := by
      obtain ⟨a1, a2, a3⟩ := al_pos u s w
      have : ng u = ng (al u s w) := by
        unfold ng
        by_cases hu : u < 0
        · rw [decide_eq_true hu, decide_eq_true (a2 hu)]
        · rw [decide_eq_false hu, decide_eq_false]
          rcases Int.lt_trichotomy u 0 with g | g | g
          · omega
          · have := a3 g; omega
          · have := a1 g; omega
      rw [this]
      exact sgn_ng _
    rw [es]
    have ha := al_abs u s w
    have ea : al u s w = u * ((10 ^ (w - s).toNat : Nat) : Int) := rfl
    unfold raR
    by_cases hu : u = 0
    · rw [if_pos hu, (al_pos u s w).2.2 hu]
      dsimp only [bs]
      rw [show (0 : Int64) = iL 0 from rfl, x_checked ⟨by decide, by decide⟩ ⟨by omega, by omega⟩]
      exact vQ_id
    rw [if_neg hu]
    by_cases h1 : w - s < 0 ∨ 18 < w - s ∨ 999999999999999999 < u.natAbs * 10 ^ (w - s).toNat
    · rw [if_pos h1]
      have hb : 999999999999999999 < (al u s w).natAbs := by
        rw [ha]
        rcases h1 with h1 | h1 | h1
        · omega
        · have h2 : 10 ^ 19 ≤ 10 ^ (w - s).toNat := Nat.pow_le_pow_right (by decide) (by omega)
          have h3 : 1 * 10 ^ (w - s).toNat ≤ u.natAbs * 10 ^ (w - s).toNat := Nat.mul_le_mul_right _ (by omega)
          omega
        · exact h1
      rw [chk_big hb]
      rfl
    · rw [if_neg h1, ← ea]
      dsimp only [bs]
      rw [x_checked ⟨by omega, by omega⟩ ⟨by omega, by omega⟩]
      exact vQ_id
end XV2
