/-! ===== change, lost ===== -/
/-- the rate, as it stands on both sides -/
def Rt (K : KS) (M : MS) (σ : Sto) (i : Nat) (u s : Int) : Prop := ∃ p, K.2.2.1 5 i = some p ∧ Val σ p u s ∧ RgV u s ∧ 0 < u ∧ M.2.2 12 i = iL u ∧ M.2.1 13 i = iI s
/-- what a currency has -/
def Cu (K : KS) (M : MS) (c d co : Nat) (m : Int32) : Prop := d ≤ 3 ∧ okM m = true ∧ 1 ≤ co ∧ co ≤ 100 ∧ K.1 25 c 0 = iI (d : Nat) ∧ K.1 25 c 1 = m ∧ K.1 25 c 2 = iI (co : Nat) ∧ M.2.1 9 c = iI (d : Nat) ∧ M.2.1 11 c = m ∧ M.2.1 10 c = iI (co : Nat)
section CH
variable {mb ni n N sz : Nat} {A : AM} {W : WM} {K : KS} {M : MS} {σ : Sto}
theorem x_changed (hC : Cf mb ni A W K M σ) (hF : Fr σ sz) {c o x dc do_ cc co : Nat} {mc mo : Int32} {u s : Int} (hc : c < 4) (ho : o < 4) (hx : x ≤ 999999999999999999) (h1 : Cu K M c dc cc mc) (h2 : Cu K M o do_ co mo) (hr : Rt K M σ (4 * c + o) u s) : ∃ τ y, (∀ a, a < sz → τ a = σ a) ∧ Fr τ y ∧ f_X11_changed σ sz (A 0 0) (iI (c : Nat)) (iI (o : Nat)) (iL (x : Nat)) = some (match spX (x * u.natAbs) ((do_ : Int) - dc - s) mo with | .inl j => .inl j | .inr v => .inr v, τ, y) := by
  obtain ⟨p, k1, hv, hg, hu, -, -⟩ := hr
  have ⟨r1, r2, r3, r4⟩ := hg
  obtain ⟨a1, a2, a3, a4, a5, a6, a7, a8, a9, a10⟩ := h1
  obtain ⟨b1, b2, b3, b4, b5, b6, b7, b8, b9, b10⟩ := h2
  have e4 : iI (c : Nat) * 4 + iI (o : Nat) = iI ((4 * c + o : Nat) : Int) := by
    rw [iI_lit 4, jI_mul, jI_add, show c * 4 + o = 4 * c + o by omega]
  have i16 : inB (iI ((4 * c + o : Nat) : Int)) 16 = true := inN (by omega) (by decide)
  have k16 : (iI ((4 * c + o : Nat) : Int)).toNatClampNeg = 4 * c + o := clN (by omega)
  have hp := hv.lt hF
  have e1 := hv.of (σ' := nO σ sz 5 dvX5) (nO_lo hp)
  obtain ⟨τ, t1, t2, t3⟩ := x_newP (σ := σ) (sz := sz) (a := x) (b := u.natAbs) hx (by omega)
  have hτ : ∀ a, a < sz → τ a = σ a := fun a ha => t3 a (by omega)
  have cτ : Cf mb ni A W K M τ := hC.mk_ hF hτ
  have hm : x * u.natAbs ≤ 999999999999999999 * 999999999999999999 := Nat.mul_le_mul hx (by omega)
  have sh := x_shifted t2 (P := (do_ : Int) - dc - s) (m := mo) ⟨by omega, by omega⟩ (Nat.mod_lt _ (by decide)) ((Nat.div_lt_iff_lt_mul (by decide)).mpr (by omega)) b2
  rw [show x * u.natAbs / 1000000000000000000 * 1000000000000000000 + x * u.natAbs % 1000000000000000000 = x * u.natAbs by omega] at sh
  have q0 := xR_0_3 (K := K) (σ := σ) hC.1
  have q1 := xA_5 (K := K) (σ := σ) (i := iI ((4 * c + o : Nat) : Int)) hC.1
  have q2 := xR_0_2 (K := K) (σ := σ) hC.1
  have q3 := xA_4 (K := K) (σ := σ) (i := iI (o : Nat)) hC.1
  have q4 := xA_4 (K := K) (σ := σ) (i := iI (c : Nat)) hC.1
  have q5 := xI_25_0 (K := K) (σ := σ) hC.1 ho
  have q6 := xI_25_0 (K := K) (σ := σ) hC.1 hc
  have q7 := xR_0_2 (K := K) (σ := τ) hC.1
  have q8 := xA_4 (K := K) (σ := τ) (i := iI (o : Nat)) hC.1
  have q9 := xI_25_1 (K := K) (σ := τ) hC.1 ho
  rw [hC.eqk] at q0 q1 q2 q3 q4 q5 q6
  rw [cτ.eqk] at q7 q8 q9
  rw [if_pos i16, k16] at q1
  rw [if_pos (in4 ho), cl4 ho, rk_4 ho] at q3 q8
  rw [if_pos (in4 hc), cl4 hc, rk_4 hc] at q4
  have q1' : aQ σ (A 5 0) 4 (iI ((4 * c + o : Nat) : Int)) = some (some p) := q1.trans (congrArg some k1)
  have ei : iL u = iL (u.natAbs : Nat) := congrArg iL (by omega)
  refine ⟨τ, sz + 1, hτ, fun a ha => by rw [t3 a (by omega)]; exact hF a (by omega), ?_⟩
  simp only [f_X11_changed, q0, e4, q1', q2, q3, q4, q5, q6, b5, a5, Option.bind_some, oq, hv.s, lt_, iI_sub, e1.u]
  rw [ei, t1]
  show (gR τ (A 0 0) 10 2).bind _ = _
  simp only [q7, q8, q9, Option.bind_some, t2.io, b6, sh]
  cases spX (x * u.natAbs) ((do_ : Int) - dc - s) mo <;> rfl
theorem m_changed {ρ : Sto} {c o x dc do_ cc co : Nat} {mc mo : Int32} {u s : Int} (hc : c < 4) (ho : o < 4) (hx : x ≤ 999999999999999999) (h1 : Cu K M c dc cc mc) (h2 : Cu K M o do_ co mo) (hg : RgV u s) (hu : 0 < u) (r1' : M.2.2 12 (4 * c + o) = iL u) (r2' : M.2.1 13 (4 * c + o) = iI s) (hb : M.1 2 = 0) (hN : 600 ≤ N) : ∃ M', Sc M M' ∧ ((spX (x * u.natAbs) ((do_ : Int) - dc - s) mo = .inl 3 ∧ M'.1 2 = 1 ∧ f_X12_changed N (ov mb M ρ) mb (iI (c : Nat)) (iI (o : Nat)) (iL (x : Nat)) = some (0, ov mb M' ρ)) ∨ ∃ v : Nat, v ≤ 999999999999999999 ∧ spX (x * u.natAbs) ((do_ : Int) - dc - s) mo = .inr (iL (v : Nat)) ∧ M'.1 2 = 0 ∧ f_X12_changed N (ov mb M ρ) mb (iI (c : Nat)) (iI (o : Nat)) (iL (x : Nat)) = some (iL (v : Nat), ov mb M' ρ)) := by
  have ⟨g1, g2, g3, g4⟩ := hg
  obtain ⟨a1, a2, a3, a4, a5, a6, a7, a8, a9, a10⟩ := h1
  obtain ⟨w1, w2, w3, w4, w5, w6, w7, w8, w9, w10⟩ := h2
  have e4 : (4 : Int32) * iI (c : Nat) + iI (o : Nat) = iI ((4 * c + o : Nat) : Int) := by
    rw [iI_lit 4, jI_mul, jI_add]
  have i16 : inB (iI ((4 * c + o : Nat) : Int)) 16 = true := inN (by omega) (by decide)
  have k16 : (iI ((4 * c + o : Nat) : Int)).toNatClampNeg = 4 * c + o := clN (by omega)
  obtain ⟨P, hP⟩ : ∃ P : Int, P = (do_ : Int) - dc - s := ⟨_, rfl⟩
  rw [← hP]
  obtain ⟨M1, c1, c2, c3⟩ := m_lets (mb := mb) (M := M) (σ := ρ) (r := 0) (z := (x : Nat)) (N := N) (by decide) ⟨by omega, by omega⟩ (by omega)
  rw [Int.natAbs_natCast] at c3
  obtain ⟨M2, d1, d2, d3⟩ := m_lets (mb := mb) (M := M1) (σ := ρ) (r := 5) (z := u) (N := N) (by decide) ⟨by omega, by omega⟩ (by omega)
  have n1 : nd x ≤ 18 := nd_le.mp (by omega)
  have n2 : nd u.natAbs ≤ 18 := nd_le.mp (by omega)
  obtain ⟨M3, f1, f2, f3⟩ := m_times (mb := mb) (M := M2) (σ := ρ) (a := 0) (b := 5) (N := N) (by decide) (by decide) (by decide) (d2.Hv (r := 0) (by decide) c3) d3 (by omega) (by omega)
  have n3 : nd (x * u.natAbs) ≤ 36 := by have := nd_mul x u.natAbs; omega
  obtain ⟨M4, h1, h2, h3⟩ := m_shifts (mb := mb) (M := M3) (σ := ρ) (r := 0) (z := P) (N := N) (by decide) ⟨by omega, by omega⟩ f3 (Or.inr (by omega)) (by omega)
  obtain ⟨M5, j1, j2, j3⟩ := m_lets (mb := mb) (M := M4) (σ := ρ) (r := 1) (z := 1) (N := N) (by decide) ⟨by decide, by decide⟩ (by omega)
  obtain ⟨M6, k1, k2, k3⟩ := m_shifts (mb := mb) (M := M5) (σ := ρ) (r := 1) (v := 1) (z := -P) (N := N) (by decide) ⟨by omega, by omega⟩ j3 (Or.inr (by have : nd 1 ≤ 1 := nd_le.mp (by decide); omega)) (by omega)
  rw [Nat.one_mul] at k3
  have S1 : Sc M M1 := c2.sc
  have S6 : Sc M M6 := ((((c2.sc.tr d2.sc).tr f2.sc).tr h2.sc).tr j2.sc).tr k2.sc
  have x6 := k2.Hv (r := 0) (by decide) (j2.Hv (r := 0) (by decide) h3)
  have f6 : M6.1 2 = 0 := by rw [k2.1, j2.1, h2.1, f2.1, d2.1, c2.1, hb]
  have sz1 : nd (x * u.natAbs * 10 ^ P.toNat) ≤ 239 := by
    have n4 := nd_mul (x * u.natAbs) (10 ^ P.toNat)
    have n5 : nd (10 ^ P.toNat) ≤ P.toNat + 1 := nd_le.mp (by rw [Nat.pow_succ]; have := pow10_pos P.toNat; omega)
    omega
  have sz2 : nd (10 ^ (-P).toNat) ≤ 230 := by
    have n5 : nd (10 ^ (-P).toNat) ≤ (-P).toNat + 1 := nd_le.mp (by rw [Nat.pow_succ]; have := pow10_pos (-P).toNat; omega)
    omega
  obtain ⟨M7, q1, q2, q3, q4⟩ := m_rounds (mb := mb) (M := M6) (σ := ρ) (neg := false) (m := mo) (N := N) x6 k3 (pow10_pos _) sz1 sz2 (Or.inl f6) (by omega)
  rw [f6] at q3
  have S7 : Sc M M7 := S6.tr q2
  obtain ⟨Q, hQ⟩ : ∃ Q, Q = rq false mo (x * u.natAbs * 10 ^ P.toNat) (10 ^ (-P).toNat) := ⟨_, rfl⟩
  rw [← hQ] at q4
  have h240 := q4.2.1
  have t1 : M1.2.2 12 (4 * c + o) = iL u := by rw [c2.2.1]; exact r1'
  have t2 : M6.2.1 11 o = mo := by rw [S6.2.1 11 (by decide) (by decide)]; exact w9
  have e1 : f_X12_lets N (ov mb M ρ) mb 0 (iL (x : Nat)) = some ((), ov mb M1 ρ) := c1
  have e2 : f_X12_lets N (ov mb M1 ρ) mb 5 (iL u) = some ((), ov mb M2 ρ) := d1
  have e3 : f_X12_times N (ov mb M2 ρ) mb 0 5 = some ((), ov mb M3 ρ) := f1
  have e5 : f_X12_shifts N (ov mb M3 ρ) mb 0 (iI P) = some ((), ov mb M4 ρ) := h1
  have e6 : f_X12_lets N (ov mb M4 ρ) mb 1 1 = some ((), ov mb M5 ρ) := j1
  have e7 : f_X12_shifts N (ov mb M5 ρ) mb 1 (iI (-P)) = some ((), ov mb M6 ρ) := k1
  have e8 : f_X12_rounds N (ov mb M6 ρ) mb 0 mo = some ((), ov mb M7 ρ) := q1
  have il2 : inB (2 : Int32) 10 = true := by decide
  have cl2 : (2 : Int32).toNatClampNeg = 2 := by decide
  have val := m_value_loop (mb := mb) (M := M7) (σ := ρ) (a := 2) (N := N) (by decide) q4 (by omega)
  -- the run
  have run : f_X12_changed N (ov mb M ρ) mb (iI (c : Nat)) (iI (o : Nat)) (iL (x : Nat)) = (if iI (nd Q : Nat) ≤ 18 then b_X12_changed_107 N (ov mb M7 ρ) mb 0 (M7.1 2) mb else b_X12_changed_107 N (ov mb M7 ρ) mb 1 (M7.1 2) mb) := by
    unfold f_X12_changed
    simp only [lt_, e4, oR_9, oA_9, Option.bind_some, in4 ho, cl4 ho, in4 hc, cl4 hc, if_true, w8, a8, oR_13, oA_13, i16, k16, r2', iI_sub, ← hP, ov_isO]
    rw [e1]
    simp only [b2, Option.bind_some, oR_12, oA_12, i16, k16, if_true, t1, ov_isO, e2, e3, e5, e6, iI_neg, e7, oR_11, oA_11, in4 ho, cl4 ho, t2, e8, oI_2, oR_1, oA_1, il2, cl2, q4.1]
  have big : ¬ nd Q ≤ 18 ↔ 999999999999999999 < Q := by rw [← nd_le]; omega
  have le18 : iI (nd Q : Nat) ≤ 18 ↔ nd Q ≤ 18 := by rw [iI_lit 18, jI_le (by omega) (by omega)]
  have c107 : ∀ s0 : Int32, (s0 = 0 ∨ s0 = 1) → (M7.1 2 = 0 ∨ M7.1 2 = 1) → ∃ M', Sc M M' ∧ M'.1 2 = (M7.1 2 ||| s0) ∧ Hv M' 2 Q ∧ b_X12_changed_107 N (ov mb M7 ρ) mb s0 (M7.1 2) mb = (if (M7.1 2 ||| s0) = 0 then some (iL (Q : Nat), ov mb M' ρ) else some (0, ov mb M' ρ)) := by
    intro s0 hs hb
    refine ⟨uI M7 2 (M7.1 2 ||| s0), S7.tr Sc.ui, by rw [uI_v, if_pos rfl], q4, ?_⟩
    have hq : Hv (uI M7 2 (M7.1 2 ||| s0)) 2 Q := q4
    have v2 : f_X12_value N (ov mb (uI M7 2 (M7.1 2 ||| s0)) ρ) mb 2 = some (iL (Q : Nat)) := m_value_loop (a := 2) (by decide) hq (by omega)
    have ok : okZ (M7.1 2 ||| s0) = true := by
      rcases hs with rfl | rfl <;> rcases hb with h | h <;> rw [h] <;> decide
    have u2 : (uI M7 2 (M7.1 2 ||| s0)).1 2 = (M7.1 2 ||| s0) := by rw [uI_v, if_pos rfl]
    unfold b_X12_changed_107
    rw [if_pos ok]
    simp only [oP_2, Option.bind_some, oI_2, ov_isO, v2, u2]
  have hb7 : M7.1 2 = 0 ∨ M7.1 2 = 1 := by
    rw [q3]
    by_cases h9 : (x * u.natAbs * 10 ^ P.toNat) % 10 ^ (-P).toNat ≠ 0 ∧ mo = 110
    · rw [if_pos h9]; exact Or.inr rfl
    · rw [if_neg h9]; exact Or.inl rfl
  unfold spX
  rw [← hQ]
  by_cases hl : nd Q ≤ 18
  · obtain ⟨M', m1, m2, m3, m4⟩ := c107 0 (Or.inl rfl) hb7
    refine ⟨M', m1, ?_⟩
    rw [run, if_pos (le18.mpr hl), m4]
    by_cases h9 : (x * u.natAbs * 10 ^ P.toNat) % 10 ^ (-P).toNat ≠ 0 ∧ mo = 110
    · left
      have h7 : M7.1 2 = 1 := by rw [q3, if_pos h9]
      rw [if_pos (Or.inl h9), m2, h7]
      exact ⟨rfl, rfl, rfl⟩
    · right
      have h7 : M7.1 2 = 0 := by rw [q3, if_neg h9]
      have nb : ¬ 999999999999999999 < Q := fun w => big.mpr w hl
      refine ⟨Q, by omega, ?_⟩
      rw [if_neg (fun w => w.elim h9 nb), m2, h7]
      exact ⟨rfl, rfl, rfl⟩
  · obtain ⟨M', m1, m2, m3, m4⟩ := c107 1 (Or.inr rfl) hb7
    refine ⟨M', m1, Or.inl ?_⟩
    have h7 : (M7.1 2 ||| 1) = 1 := by rcases hb7 with h | h <;> rw [h] <;> rfl
    rw [run, if_neg (fun w => hl (le18.mp w)), m4, if_pos (Or.inr (big.mp hl)), m2, h7]
    exact ⟨rfl, rfl, rfl⟩
/-- the money to be changed -/
theorem mo_cases {v : Int64} : (f_X11_checkRange v 0 1000000000000 = some (.inl 1) ∧ f_X12_in v 0 1000000000000 = some 0) ∨ ∃ x : Nat, v = iL (x : Nat) ∧ x ≤ 1000000000000 ∧ f_X11_checkRange v 0 1000000000000 = some (.inr ()) ∧ f_X12_in v 0 1000000000000 = some 1 := by
  obtain ⟨z, z1, z2, rfl⟩ := iL_of v
  rw [x_range (a := 0) (b := 1000000000000) (a' := 0) (b' := 1000000000000) rfl rfl ⟨z1, z2⟩ ⟨by decide, by decide⟩ ⟨by decide, by decide⟩, m_range (a := 0) (b := 1000000000000) (a' := 0) (b' := 1000000000000) rfl rfl ⟨z1, z2⟩ ⟨by decide, by decide⟩ ⟨by decide, by decide⟩]
  by_cases h : 0 ≤ z ∧ z ≤ 1000000000000
  · obtain ⟨x, rfl⟩ : ∃ x : Nat, z = x := ⟨z.toNat, by omega⟩
    refine Or.inr ⟨x, rfl, by omega, ?_, ?_⟩
    · rw [if_pos h]
    · rw [decide_eq_true h]; rfl
  · refine Or.inl ⟨?_, ?_⟩
    · rw [if_neg h]
    · rw [decide_eq_false h]; rfl
/-- the rate there: none, or one -/
theorem ra_cases (hR : Rel n ni A K M σ) {i : Nat} (hi : i < 16) : (K.2.2.1 5 i = none ∧ M.2.2 12 i = 0) ∨ ∃ u s, Rt K M σ i u s ∧ ¬ M.2.2 12 i = 0 := by
  rcases hR.2.2.2.1 i hi with h | ⟨p, u, s, h1, h2, h3, h4, h5, h6⟩
  · exact Or.inl h
  · have ⟨g1, g2, g3, g4⟩ := h3
    refine Or.inr ⟨u, s, ⟨p, h1, h2, h3, h4, h5, h6⟩, ?_⟩
    rw [h5, iL_lit 0, iL_eq ⟨by omega, by omega⟩ ⟨by decide, by decide⟩]
    omega
theorem m_noMoney {ρ : Sto} {v1 v2 : Int32} {v3 : Int64} {a b d : Int32} (h1 : f_X12_isCurrency v1 = some a) (h2 : f_X12_isCurrency v2 = some b) (h3 : f_X12_in v3 0 1000000000000 = some d) : f_X12_noMoney (ov mb M ρ) mb v1 v2 v3 = (if a = 0 then some 1 else if b = 0 then some 1 else if v1 = v2 then some 2 else if d = 0 then some 2 else (if inB (4 * v1 + v2) 16 = true then some (M.2.2 12 (4 * v1 + v2).toNatClampNeg) else none).bind fun x9 => if x9 = 0 then some 3 else some 0) := by
  unfold f_X12_noMoney
  simp only [h1, h2, h3, Option.bind_some, oR_12, oA_12]
end CH
theorem p_change {xb mb ob N : Nat} (hN : 1000 ≤ N) : A_change (I0 xb mb ob) N xb mb ob := by
  intro v1 v2 v3
  refine ag_in (fun n σ sz ni A W K M hn hA ho hC hR hF => ?_)
  subst hA
  have i0 : ∀ v : Int32, ∃ a, f_X12_isCurrency v = some a := by
    intro v
    rcases cu_cases (v := v) with ⟨-, h⟩ | ⟨k, -, -, -, h⟩ <;> exact ⟨_, h⟩
  have j0 : ∀ v : Int64, ∃ a, f_X12_in v 0 1000000000000 = some a := by
    intro v
    rcases mo_cases (v := v) with ⟨-, h⟩ | ⟨k, -, -, -, h⟩ <;> exact ⟨_, h⟩
  obtain ⟨q2, hq2⟩ := i0 v2
  obtain ⟨q3, hq3⟩ := j0 v3
  have no : ∀ (ρ : Sto) (c : Nat), c ≠ 0 → c < 100 → f_X12_noMoney (ov mb M ρ) mb v1 v2 v3 = some (iI (c : Nat)) → f_X12_change N (ov mb M ρ) mb v1 v2 v3 = some (0, ov mb (uI M 8 (iI (c : Nat))) ρ) := by
    intro ρ c h1 h2 h3
    unfold f_X12_change
    rw [ov_isO, Option.bind_some, h3, Option.bind_some, m_fails h2, decide_eq_true (by omega)]
    rfl
  rcases cu_cases (v := v1) with ⟨c1, c2⟩ | ⟨c, e1, hc, c1, c2⟩
  · refine ag_no (k := 1) (y := sz) rfl ho hC hR ?_ (by decide) (by decide) (fun ρ => ⟨uI M 8 1, 0, ?_, Sd.u8, u8_v⟩)
    · simp only [f_L_change, f_X11_change, f_X11_checkChange, hC.xo, Option.bind_some, c1, bs, b3]
      rfl
    · exact no ρ 1 (by decide) (by decide) (by rw [m_noMoney c2 hq2 hq3]; rfl)
  rcases cu_cases (v := v2) with ⟨o1, o2⟩ | ⟨o, e2, hoo, o1, o2⟩
  · refine ag_no (k := 1) (y := sz) rfl ho hC hR ?_ (by decide) (by decide) (fun ρ => ⟨uI M 8 1, 0, ?_, Sd.u8, u8_v⟩)
    · simp only [f_L_change, f_X11_change, f_X11_checkChange, hC.xo, Option.bind_some, c1, o1, bs, b3]
      rfl
    · exact no ρ 1 (by decide) (by decide) (by rw [m_noMoney c2 o2 hq3]; rfl)
  by_cases hv : v1 = v2
  · refine ag_no (k := 2) (y := sz) rfl ho hC hR ?_ (by decide) (by decide) (fun ρ => ⟨uI M 8 2, 0, ?_, Sd.u8, u8_v⟩)
    · simp only [f_L_change, f_X11_change, f_X11_checkChange, f_X11_checkUnlike, hC.xo, Option.bind_some, c1, o1, if_pos hv, bs, b3]
      rfl
    · exact no ρ 2 (by decide) (by decide) (by rw [m_noMoney c2 o2 hq3, if_neg (by decide), if_neg (by decide), if_pos hv]; rfl)
  rcases mo_cases (v := v3) with ⟨m1, m2⟩ | ⟨x, e3, hx, m1, m2⟩
  · refine ag_no (k := 2) (y := sz) rfl ho hC hR ?_ (by decide) (by decide) (fun ρ => ⟨uI M 8 2, 0, ?_, Sd.u8, u8_v⟩)
    · simp only [f_L_change, f_X11_change, f_X11_checkChange, f_X11_checkUnlike, hC.xo, Option.bind_some, c1, o1, if_neg hv, m1, bs, b3]
      rfl
    · exact no ρ 2 (by decide) (by decide) (by rw [m_noMoney c2 o2 m2, if_neg (by decide), if_neg (by decide), if_neg hv]; rfl)
  have e4 : (4 : Int32) * v1 + v2 = iI ((4 * c + o : Nat) : Int) := by rw [e1, e2, iI_lit 4, jI_mul, jI_add]
  have e4' : v1 * 4 + v2 = iI ((4 * c + o : Nat) : Int) := by rw [e1, e2, iI_lit 4, jI_mul, jI_add, show c * 4 + o = 4 * c + o by omega]
  have i16 : inB (iI ((4 * c + o : Nat) : Int)) 16 = true := inN (by omega) (by decide)
  have k16 : (iI ((4 * c + o : Nat) : Int)).toNatClampNeg = 4 * c + o := clN (by omega)
  have nm : ∀ ρ, f_X12_noMoney (ov mb M ρ) mb v1 v2 v3 = if M.2.2 12 (4 * c + o) = 0 then some 3 else some 0 := by
    intro ρ
    rw [m_noMoney c2 o2 m2, if_neg (by decide), if_neg (by decide), if_neg hv, if_neg (by decide), e4, if_pos i16, k16, Option.bind_some]
  rcases ra_cases hR (i := 4 * c + o) (by omega) with ⟨r1, r2⟩ | ⟨u, s, hr, r2⟩
  · refine ag_no (k := 3) (y := sz) rfl ho hC hR ?_ (by decide) (by decide) (fun ρ => ⟨uI M 8 3, 0, ?_, Sd.u8, u8_v⟩)
    · have q0 := xR_0_3 (K := K) (σ := σ) hC.1
      have q1 := xA_5 (K := K) (σ := σ) (i := iI ((4 * c + o : Nat) : Int)) hC.1
      rw [hC.eqk] at q0 q1
      rw [if_pos i16, k16] at q1
      have q1' : aQ σ (A 5 0) 4 (iI ((4 * c + o : Nat) : Int)) = some none := q1.trans (congrArg some r1)
      simp only [f_L_change, f_X11_change, f_X11_checkChange, f_X11_checkUnlike, f_X11_changed, hC.xo, Option.bind_some, c1, o1, if_neg hv, m1, bs, b3, q0, e4', q1', oq]
      rfl
    · exact no ρ 3 (by decide) (by decide) (by rw [nm, if_pos r2]; rfl)
  subst e1
  subst e2
  subst e3
  obtain ⟨dc, cc, mc, k1⟩ := hR.2.2.1 c hc
  obtain ⟨do_, co, mo, k2⟩ := hR.2.2.1 o hoo
  obtain ⟨τ, y, t1, t2, t3⟩ := x_changed hC hF hc hoo (show x ≤ 999999999999999999 by omega) k1 k2 hr
  have cτ := hC.mk_ hF t1
  have rτ : Rel n ni A K M τ := hR.vk (fun p u s hv => hv.of (t1 p (hv.lt hF)))
  have bb2 : ∀ {α β γ : Type} (x : α) (y : β) (f : α → β → Option γ), b2 (some (x, y)) f = f x y := fun _ _ _ => rfl
  obtain ⟨p, p1, p2, p3, p4, p5, p6⟩ := hr
  have mo' : ∀ ρ, ∃ M', Sd M M' ∧ ((spX (x * u.natAbs) ((do_ : Int) - dc - s) mo = .inl 3 ∧ M'.1 8 = 4 ∧ f_X12_change N (ov mb M ρ) mb (iI (c : Nat)) (iI (o : Nat)) (iL (x : Nat)) = some (0, ov mb M' ρ)) ∨ ∃ v : Nat, spX (x * u.natAbs) ((do_ : Int) - dc - s) mo = .inr (iL (v : Nat)) ∧ M'.1 8 = 0 ∧ f_X12_change N (ov mb M ρ) mb (iI (c : Nat)) (iI (o : Nat)) (iL (x : Nat)) = some (iL (v : Nat), ov mb M' ρ)) := by
    intro ρ
    obtain ⟨M1, a1, a2⟩ := m_changed (mb := mb) (K := K) (M := uI (uI M 8 0) 2 0) (ρ := ρ) (N := N) hc hoo (show x ≤ 999999999999999999 by omega) k1 k2 p3 p4 p5 p6 (by rw [uI_v, if_pos rfl]) (by omega)
    have S1 : Sd M M1 := (Sd.u8.tr Sc.ui.sd).tr a1.sd
    have run : f_X12_change N (ov mb M ρ) mb (iI (c : Nat)) (iI (o : Nat)) (iL (x : Nat)) = b2 (f_X12_changed N (ov mb (uI (uI M 8 0) 2 0) ρ) mb (iI (c : Nat)) (iI (o : Nat)) (iL (x : Nat))) fun x8 τ9 => (gI τ9 mb 11 2).bind fun x10 => if x10 = 0 then b_X12_change_43 N τ9 x8 0 mb else b_X12_change_43 N τ9 x8 4 mb := by
      unfold f_X12_change
      rw [ov_isO, Option.bind_some, nm, if_neg r2, Option.bind_some, ff0, bb2, if_pos rfl, oP_2, Option.bind_some, ov_isO, Option.bind_some]
    rcases a2 with ⟨h1, h2, h3⟩ | ⟨v, hv9, h1, h2, h3⟩
    · refine ⟨uI M1 8 4, S1.tr Sd.u8, Or.inl ⟨h1, u8_v, ?_⟩⟩
      rw [run, h3, bb2, oI_2, Option.bind_some, h2, if_neg (by decide)]
      unfold b_X12_change_43
      simp only [ov_isO, Option.bind_some, ff4, b2]
      rfl
    · refine ⟨uI M1 8 0, S1.tr Sd.u8, Or.inr ⟨v, h1, u8_v, ?_⟩⟩
      rw [run, h3, bb2, oI_2, Option.bind_some, h2, if_pos rfl]
      unfold b_X12_change_43
      simp only [ov_isO, Option.bind_some, ff0, b2]
      rfl
  have cl : f_X11_change σ sz (A 0 0) (iI (c : Nat)) (iI (o : Nat)) (iL (x : Nat)) = some (spX (x * u.natAbs) ((do_ : Int) - dc - s) mo, τ, y) := by
    simp only [f_X11_change, f_X11_checkChange, f_X11_checkUnlike, hC.xo, Option.bind_some, c1, o1, if_neg hv, m1, bs, b3, t3]
    cases spX (x * u.natAbs) ((do_ : Int) - dc - s) mo <;> rfl
  obtain ⟨M0, -, hcase⟩ := mo' σ
  rcases hcase with ⟨h1, -, -⟩ | ⟨v, h1, -, -⟩
  · refine ag_ex (k := 4) (y := y) rfl ho ?_ cτ (by decide) (by decide) (fun ρ => ?_)
    · simp only [f_L_change, hC.xo, Option.bind_some, cl, h1, b3, bs]
      rfl
    · obtain ⟨M', g1, g2 | ⟨v, g2, -⟩⟩ := mo' ρ
      · exact ⟨M', 0, g2.2.2, g2.2.1, (rτ.sd g1).up⟩
      · rw [h1] at g2; cases g2
  · refine ag_ok (v := iL (v : Nat)) (y := y) rfl ho ?_ cτ (fun ρ => ?_)
    · simp only [f_L_change, hC.xo, Option.bind_some, cl, h1, b3, bs]
    · obtain ⟨M', g1, g2 | ⟨v', g2, g3, g4⟩⟩ := mo' ρ
      · rw [h1] at g2; cases g2.1
      · rw [h1] at g2
        exact ⟨M', _, g4, g3, (Sum.inr.inj g2).symm, (rτ.sd g1).up⟩
