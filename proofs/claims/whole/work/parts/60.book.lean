/-! ===== book ===== -/
section BM
variable {mb ni n N sz : Nat} {A : AM} {W : WM} {K : KS} {M : MS} {σ : Sto}
theorem m_changed1 {ρ : Sto} {c o x dc do_ cc co : Nat} {mc mo : Int32} {u s : Int} (hc : c < 4) (ho : o < 4) (hx : x ≤ 999999999999999999) (h1 : Cu K M c dc cc mc) (h2 : Cu K M o do_ co mo) (hg : RgV u s) (hu : 0 < u) (r1' : M.2.2 12 (4 * c + o) = iL u) (r2' : M.2.1 13 (4 * c + o) = iI s) (hb : M.1 2 = 1) (hN : 600 ≤ N) : ∃ M', Sc M M' ∧ M'.1 2 = 1 ∧ f_X12_changed N (ov mb M ρ) mb (iI (c : Nat)) (iI (o : Nat)) (iL (x : Nat)) = some (0, ov mb M' ρ) := by
  have ⟨g1, g2, g3, g4⟩ := hg
  obtain ⟨a1, a2, a3, a4, a5, a6, a7, a8, a9, a10⟩ := h1
  obtain ⟨w1, w2, w3, w4, w5, w6, w7, w8, w9, w10⟩ := h2
  have e4 : (4 : Int32) * iI (c : Nat) + iI (o : Nat) = iI ((4 * c + o : Nat) : Int) := by
    rw [iI_lit 4, jI_mul, jI_add]
  have i16 : inB (iI ((4 * c + o : Nat) : Int)) 16 = true := inN (by omega) (by decide)
  have k16 : (iI ((4 * c + o : Nat) : Int)).toNatClampNeg = 4 * c + o := clN (by omega)
  obtain ⟨P, hP⟩ : ∃ P : Int, P = (do_ : Int) - dc - s := ⟨_, rfl⟩
  obtain ⟨M1, c1, c2, c3⟩ := m_lets (mb := mb) (M := M) (σ := ρ) (r := 0) (z := (x : Nat)) (N := N) (by decide) ⟨by omega, by omega⟩ (by omega)
  rw [Int.natAbs_natCast] at c3
  obtain ⟨M2, d1, d2, d3⟩ := m_lets (mb := mb) (M := M1) (σ := ρ) (r := 5) (z := u) (N := N) (by decide) ⟨by omega, by omega⟩ (by omega)
  have n1 : nd x ≤ 18 := nd_le.mp (by omega)
  have n2 : nd u.natAbs ≤ 18 := nd_le.mp (by omega)
  obtain ⟨M3, f1, f2, f3⟩ := m_times (mb := mb) (M := M2) (σ := ρ) (a := 0) (b := 5) (N := N) (by decide) (by decide) (by decide) (d2.Hv (r := 0) (by decide) c3) d3 (by omega) (by omega)
  have n3 : nd (x * u.natAbs) ≤ 36 := by have := nd_mul x u.natAbs; omega
  obtain ⟨M4, h1, h2, h3⟩ := m_shifts (mb := mb) (M := M3) (σ := ρ) (r := 0) (z := P) (N := N) (by decide) ⟨by omega, by omega⟩ f3 (Or.inr (by omega)) (by omega)
  obtain ⟨M5, j1, j2, j3⟩ := m_lets (mb := mb) (M := M4) (σ := ρ) (r := 1) (z := 1) (N := N) (by decide) ⟨by decide, by decide⟩ (by omega)
  obtain ⟨M6, k1, k2, k3⟩ := m_shifts (mb := mb) (M := M5) (σ := ρ) (r := 1) (v := 1) (z := -P) (N := N) (by decide) ⟨by omega, by omega⟩ j3 (Or.inr (by have : nd 1 ≤ 1 := nd_le.mp (by decide); omega)) (by omega)
  rw [Nat.one_mul] at k3
  have S1 : Sc M M1 := c2.sc
  have S6 : Sc M M6 := ((((c2.sc.tr d2.sc).tr f2.sc).tr h2.sc).tr j2.sc).tr k2.sc
  have x6 := k2.Hv (r := 0) (by decide) (j2.Hv (r := 0) (by decide) h3)
  have f6 : M6.1 2 = 1 := by rw [k2.1, j2.1, h2.1, f2.1, d2.1, c2.1, hb]
  have sz1 : nd (x * u.natAbs * 10 ^ P.toNat) ≤ 239 := by
    have n4 := nd_mul (x * u.natAbs) (10 ^ P.toNat)
    have n5 : nd (10 ^ P.toNat) ≤ P.toNat + 1 := nd_le.mp (by rw [Nat.pow_succ]; have := pow10_pos P.toNat; omega)
    omega
  have sz2 : nd (10 ^ (-P).toNat) ≤ 230 := by
    have n5 : nd (10 ^ (-P).toNat) ≤ (-P).toNat + 1 := nd_le.mp (by rw [Nat.pow_succ]; have := pow10_pos (-P).toNat; omega)
    omega
  obtain ⟨M7, q1, q2, q3, q4⟩ := m_rounds (mb := mb) (M := M6) (σ := ρ) (neg := false) (m := mo) (N := N) x6 k3 (pow10_pos _) sz1 sz2 (Or.inr f6) (by omega)
  rw [f6] at q3
  have S7 : Sc M M7 := S6.tr q2
  obtain ⟨Q, hQ⟩ : ∃ Q, Q = rq false mo (x * u.natAbs * 10 ^ P.toNat) (10 ^ (-P).toNat) := ⟨_, rfl⟩
  rw [← hQ] at q4
  have h240 := q4.2.1
  have t1 : M1.2.2 12 (4 * c + o) = iL u := by rw [c2.2.1]; exact r1'
  have t2 : M6.2.1 11 o = mo := by rw [S6.2.1 11 (by decide) (by decide)]; exact w9
  have e1 : f_X12_lets N (ov mb M ρ) mb 0 (iL (x : Nat)) = some ((), ov mb M1 ρ) := c1
  have e2 : f_X12_lets N (ov mb M1 ρ) mb 5 (iL u) = some ((), ov mb M2 ρ) := d1
  have e3 : f_X12_times N (ov mb M2 ρ) mb 0 5 = some ((), ov mb M3 ρ) := f1
  have e5 : f_X12_shifts N (ov mb M3 ρ) mb 0 (iI P) = some ((), ov mb M4 ρ) := h1
  have e6 : f_X12_lets N (ov mb M4 ρ) mb 1 1 = some ((), ov mb M5 ρ) := j1
  have e7 : f_X12_shifts N (ov mb M5 ρ) mb 1 (iI (-P)) = some ((), ov mb M6 ρ) := k1
  have e8 : f_X12_rounds N (ov mb M6 ρ) mb 0 mo = some ((), ov mb M7 ρ) := q1
  have il2 : inB (2 : Int32) 10 = true := by decide
  have cl2 : (2 : Int32).toNatClampNeg = 2 := by decide
  have val := m_value_loop (mb := mb) (M := M7) (σ := ρ) (a := 2) (N := N) (by decide) q4 (by omega)
  -- the run
  have run : f_X12_changed N (ov mb M ρ) mb (iI (c : Nat)) (iI (o : Nat)) (iL (x : Nat)) = (if iI (nd Q : Nat) ≤ 18 then b_X12_changed_107 N (ov mb M7 ρ) mb 0 (M7.1 2) mb else b_X12_changed_107 N (ov mb M7 ρ) mb 1 (M7.1 2) mb) := by
    unfold f_X12_changed
    simp only [lt_, e4, oR_9, oA_9, Option.bind_some, in4 ho, cl4 ho, in4 hc, cl4 hc, if_true, w8, a8, oR_13, oA_13, i16, k16, r2', iI_sub, ← hP, ov_isO]
    rw [e1]
    simp only [b2, Option.bind_some, oR_12, oA_12, i16, k16, if_true, t1, ov_isO, e2, e3, e5, e6, iI_neg, e7, oR_11, oA_11, in4 ho, cl4 ho, t2, e8, oI_2, oR_1, oA_1, il2, cl2, q4.1]
  have big : ¬ nd Q ≤ 18 ↔ 999999999999999999 < Q := by rw [← nd_le]; omega
  have le18 : iI (nd Q : Nat) ≤ 18 ↔ nd Q ≤ 18 := by rw [iI_lit 18, jI_le (by omega) (by omega)]
  have c107 : ∀ s0 : Int32, (s0 = 0 ∨ s0 = 1) → (M7.1 2 = 0 ∨ M7.1 2 = 1) → ∃ M', Sc M M' ∧ M'.1 2 = (M7.1 2 ||| s0) ∧ Hv M' 2 Q ∧ b_X12_changed_107 N (ov mb M7 ρ) mb s0 (M7.1 2) mb = (if (M7.1 2 ||| s0) = 0 then some (iL (Q : Nat), ov mb M' ρ) else some (0, ov mb M' ρ)) := by
    intro s0 hs hb
    refine ⟨uI M7 2 (M7.1 2 ||| s0), S7.tr Sc.ui, by rw [uI_v, if_pos rfl], q4, ?_⟩
    have hq : Hv (uI M7 2 (M7.1 2 ||| s0)) 2 Q := q4
    have v2 : f_X12_value N (ov mb (uI M7 2 (M7.1 2 ||| s0)) ρ) mb 2 = some (iL (Q : Nat)) := m_value_loop (a := 2) (by decide) hq (by omega)
    have ok : okZ (M7.1 2 ||| s0) = true := by
      rcases hs with rfl | rfl <;> rcases hb with h | h <;> rw [h] <;> decide
    have u2 : (uI M7 2 (M7.1 2 ||| s0)).1 2 = (M7.1 2 ||| s0) := by rw [uI_v, if_pos rfl]
    unfold b_X12_changed_107
    rw [if_pos ok]
    simp only [oP_2, Option.bind_some, oI_2, ov_isO, v2, u2]
  have hb7 : M7.1 2 = 1 := by
    rw [q3]
    by_cases h9 : (x * u.natAbs * 10 ^ P.toNat) % 10 ^ (-P).toNat ≠ 0 ∧ mo = 110
    · rw [if_pos h9]
    · rw [if_neg h9]
  by_cases h18 : iI (nd Q : Nat) ≤ 18
  · obtain ⟨M', y1, y2, y3, y4⟩ := c107 0 (Or.inl rfl) (Or.inr hb7)
    refine ⟨M', y1, by rw [y2, hb7]; rfl, ?_⟩
    rw [run, if_pos h18, y4, if_neg (by rw [hb7]; decide)]
  · obtain ⟨M', y1, y2, y3, y4⟩ := c107 1 (Or.inr rfl) (Or.inr hb7)
    refine ⟨M', y1, by rw [y2, hb7]; rfl, ?_⟩
    rw [run, if_neg h18, y4, if_neg (by rw [hb7]; decide)]

def tK (K : KS) (a c : Nat) (v2 v4 : Int64) : KS := if v4 ≤ v2 then K else eK K a c (iI (1 : Nat)) (iI (3 : Nat)) (v4 - v2)
def tC (c : Nat) (v2 v4 : Int64) : Nat := if v4 ≤ v2 then c else c + 1
def gK (K : KS) (a c d i : Nat) (v2 v4 : Int64) : KS := if v2 ≤ 0 then tK (nK K a c (iI (d : Nat)) (iI (i : Nat))) a c v2 v4 else tK (eK (nK K a c (iI (d : Nat)) (iI (i : Nat))) a c (iI (1 : Nat)) (iI (2 : Nat)) v2) a (c + 1) v2 v4
def gC (c : Nat) (v2 v4 : Int64) : Nat := if v2 ≤ 0 then tC c v2 v4 else tC (c + 1) v2 v4
/-- what is entered of a booking -/
theorem led_tail {c a i d : Nat} {sh : Int} {S : Nat → Nat} {v2 v4 : Int64} (hG : Gk ni A W) (hL : LE ni c (a + 1) sh S K M) (ha : a < 220) (hc : ¬ v4 ≤ v2 → c < 200) (hv : v4 - v2 ≤ 0 ↔ v4 ≤ v2) (hi : i < 20) (hd : M.2.1 49 a = iI (d : Nat)) (hd2 : d ≤ 9999) (h22 : M.2.1 22 i = iI (d : Nat)) : ∃ M', LE ni (tC c v2 v4) (a + 1) sh S (tK K a c v2 v4) M' ∧ KE K (tK K a c v2 v4) ∧ ME M M' ∧ M'.2.1 50 = M.2.1 50 ∧ c ≤ tC c v2 v4 ∧ M'.1 8 = M.1 8 ∧ (∀ σ sz, b_X11_book_184 N (ovk A W K σ) sz (A 0 0) (v4 - v2) = some (.inr (iI (tC c v2 v4 : Nat)), ovk A W (tK K a c v2 v4) σ, sz)) ∧ ∀ ρ, b_X12_book_254 N (ov mb M ρ) mb (iI (i : Nat)) v2 v4 = some (iI (tC c v2 v4 : Nat), ov mb M' ρ) := by
  have bb2 : ∀ {α β γ : Type} (x : α) (y : β) (f : α → β → Option γ), b2 (some (x, y)) f = f x y := fun _ _ _ => rfl
  have hL0 := hL
  obtain ⟨l1, l2, l3, l4, ⟨q1, q2, q3, q4, q5, q6⟩, l5, l6, l7, l8, l9, l10⟩ := hL
  by_cases h : v4 ≤ v2
  · rw [show tK K a c v2 v4 = K from if_pos h, show tC c v2 v4 = c from if_pos h]
    refine ⟨M, hL0, KE.rf, ME.rf, rfl, Nat.le_refl _, rfl, fun σ sz => ?_, fun ρ => ?_⟩
    · unfold b_X11_book_184
      rw [if_pos (hv.mpr h), xR_0_10 hG, Option.bind_some, xI_17_4 hG, Option.bind_some, q1]
    · unfold b_X12_book_254
      rw [if_pos h, oI_46, Option.bind_some, q2]
  · have hcc := hc h
    rw [show tK K a c v2 v4 = eK K a c (iI (1 : Nat)) (iI (3 : Nat)) (v4 - v2) from if_neg h, show tC c v2 v4 = c + 1 from if_neg h]
    refine ⟨eM M c (iI (d : Nat)) (iI (1 : Nat)) (iI (3 : Nat)) (v4 - v2), hL0.enter hcc (by decide) (by decide) hd hd2, eK_E KE.rf, eM_E ME.rf, rfl, by omega, rfl, fun σ sz => ?_, fun ρ => ?_⟩
    · have xe : f_X3_enter (ovk A W K σ) (A 17 0) 1 3 (v4 - v2) = some (iI ((c + 1 : Nat) : Int), ovk A W (eK K a c (iI (1 : Nat)) (iI (3 : Nat)) (v4 - v2)) σ) := x_enter hG q3 q1 ha hcc
      have k4 : (eK K a c (iI (1 : Nat)) (iI (3 : Nat)) (v4 - v2)).1 17 0 4 = iI ((c + 1 : Nat) : Int) := by
        simp only [eK, kI_v, and_self, if_true]
      unfold b_X11_book_184
      rw [if_neg (fun w => h (hv.mp w)), xR_0_10 hG, Option.bind_some, xO_17 hG, Option.bind_some, xe, bb2, xR_0_10 hG, Option.bind_some, xI_17_4 hG, Option.bind_some, k4]
    · have me : f_X12_enters (ov mb M ρ) mb (iI (d : Nat)) 1 3 (v4 - v2) = some ((), ov mb (eM M c (iI (d : Nat)) (iI (1 : Nat)) (iI (3 : Nat)) (v4 - v2)) ρ) := m_enters q2 hcc
      unfold b_X12_book_254
      rw [if_neg h, oR_22, Option.bind_some, oA_22, inN hi (by decide), if_pos rfl, clN (by omega), Option.bind_some, h22, ov_isO, Option.bind_some, me, bb2, oI_46, Option.bind_some]
      rfl
theorem led_go {c a i d : Nat} {sh : Int} {S : Nat → Nat} {v2 v4 : Int64} (hG : Gk ni A W) (hL : LE ni c a sh S K M) (hle : a ≤ c + bkN (M.2.1 50) a) (hni : ni ≤ 20) (hi : i < ni) (ha : a < 220) (hc : c + (if v2 ≤ 0 then 0 else 1) + (if v4 ≤ v2 then 0 else 1) ≤ 200) (hv : v4 - v2 ≤ 0 ↔ v4 ≤ v2) (hfl : M.2.1 26 i ≠ 1) (hd2 : d ≤ 9999) (h22 : M.2.1 22 i = iI (d : Nat)) (k29 : K.1 29 i 0 = iI (d : Nat)) : ∃ M', RE ni (gK K a c d i v2 v4) M' ∧ KE K (gK K a c d i v2 v4) ∧ ME M M' ∧ M'.1 8 = 0 ∧ (∀ σ sz s0 s1, f_X11_checkRoom (ovk A W K σ) (A 0 0) (s1 + s0) = some (.inr ()) → b_X11_book_151 N (ovk A W K σ) sz (A 0 0) (iI (i : Nat)) (A 29 i) v2 (v4 - v2) s0 s1 (A 0 0) = some (.inr (iI (gC c v2 v4 : Nat)), ovk A W (gK K a c d i v2 v4) σ, sz)) ∧ ∀ ρ, b_X12_book_209 N (ov mb M ρ) mb (iI (i : Nat)) v2 v4 0 mb = some (iI (gC c v2 v4 : Nat), ov mb M' ρ) := by
  have bb2 : ∀ {α β γ : Type} (x : α) (y : β) (f : α → β → Option γ), b2 (some (x, y)) f = f x y := fun _ _ _ => rfl
  have L1 : LE ni c a sh S K (uI M 8 0) := hL
  have q3 : K.1 17 0 8 = iI (a : Nat) := hL.2.2.2.2.1.2.2.1
  have q1 : K.1 17 0 4 = iI (c : Nat) := hL.2.2.2.2.1.1
  have q4 : (uI M 8 0).1 51 = iI (a : Nat) := L1.2.2.2.2.1.2.2.2.1
  have q2 : (uI M 8 0).1 46 = iI (c : Nat) := L1.2.2.2.2.1.2.1
  have i20 : inB (iI (i : Nat)) 20 = true := inN (by omega) (by decide)
  have k20 : (iI (i : Nat)).toNatClampNeg = i := clN (by omega)
  obtain ⟨K1, hK1⟩ : ∃ K1, K1 = nK K a c (iI (d : Nat)) (iI (i : Nat)) := ⟨_, rfl⟩
  obtain ⟨M1, hM1⟩ : ∃ M1, M1 = uA (nM (uI M 8 0) a c (iI (d : Nat)) (iI (i : Nat))) 26 i 1 := ⟨_, rfl⟩
  obtain ⟨n1, n2⟩ := L1.note (b := (i : Nat)) (d := d) (M2 := M1) hni hle ha hd2 ⟨by omega, by omega⟩ (Or.inr ⟨i, rfl, hfl, hM1⟩)
  rw [← hK1] at n1
  rw [if_neg (by omega)] at n2
  have d49 : M1.2.1 49 a = iI (d : Nat) := by rw [hM1]; simp only [nM, uA_v, uI_o, Nat.reduceEqDiff, false_and, and_self, if_false, if_true]
  have d22 : M1.2.1 22 i = iI (d : Nat) := by rw [hM1]; exact h22
  have d8 : M1.1 8 = 0 := by rw [hM1]; exact u8_v (M := M) (v := 0)
  have E1 : KE K K1 := by rw [hK1]; exact nK_E KE.rf
  have F1 : ME M M1 := by rw [hM1]; exact (nM_E (ME.rf.uI (Or.inr rfl))).uA (Or.inr rfl)
  have k4 : K1.1 17 0 4 = iI (c : Nat) := n1.2.2.2.2.1.1
  have k8 : K1.1 17 0 8 = iI ((a + 1 : Nat) : Int) := n1.2.2.2.2.1.2.2.1
  have m4 : M1.1 46 = iI (c : Nat) := n1.2.2.2.2.1.2.1
  have cls : ∀ σ sz s0 s1, f_X11_checkRoom (ovk A W K σ) (A 0 0) (s1 + s0) = some (.inr ()) → b_X11_book_151 N (ovk A W K σ) sz (A 0 0) (iI (i : Nat)) (A 29 i) v2 (v4 - v2) s0 s1 (A 0 0) = if v2 ≤ 0 then b_X11_book_184 N (ovk A W K1 σ) sz (A 0 0) (v4 - v2) else (f_X3_enter (ovk A W K1 σ) (A 17 0) 1 2 v2).bind fun q => b_X11_book_184 N q.2 sz (A 0 0) (v4 - v2) := by
    intro σ sz s0 s1 hr
    have xb := x_begin (K := K) (σ := σ) (d := iI (d : Nat)) (b := iI (i : Nat)) hG q3 q1 ha
    rw [← hK1] at xb
    unfold b_X11_book_151
    rw [xO_0 hG, Option.bind_some, hr, Option.bind_some]
    dsimp only [bs]
    rw [xR_0_10 hG, Option.bind_some, xI_29_0 hG hi, Option.bind_some, xO_17 hG, Option.bind_some, k29, xb, bb2]
    by_cases h : v2 ≤ 0
    · rw [if_pos h, if_pos h]
    · rw [if_neg h, if_neg h, xR_0_10 hG, Option.bind_some, xO_17 hG, Option.bind_some]
      rfl
  have rf : ∀ ρ, b_X12_book_209 N (ov mb M ρ) mb (iI (i : Nat)) v2 v4 0 mb = if v2 ≤ 0 then b_X12_book_254 N (ov mb M1 ρ) mb (iI (i : Nat)) v2 v4 else (f_X12_enters (ov mb M1 ρ) mb (iI (d : Nat)) 1 2 v2).bind fun q => b_X12_book_254 N q.2 mb (iI (i : Nat)) v2 v4 := by
    intro ρ
    have e22 : (uI M 8 0).2.1 22 i = iI (d : Nat) := h22
    have mn : f_X12_notes (ov mb (uI M 8 0) ρ) mb (iI (d : Nat)) (iI (i : Nat)) = some ((), ov mb (nM (uI M 8 0) a c (iI (d : Nat)) (iI (i : Nat))) ρ) := m_notes (M := uI M 8 0) q4 q2 ha
    have z1 : nZ 1 = 1 := by decide
    unfold b_X12_book_209
    rw [ov_isO, Option.bind_some, ff0, bb2, if_pos rfl, oR_22, Option.bind_some, oA_22, i20, if_pos rfl, k20, Option.bind_some, e22, ov_isO, Option.bind_some, mn, bb2, oR_26, Option.bind_some, z1, oS_26, i20, if_pos rfl, k20, Option.bind_some, ← hM1]
    by_cases h : v2 ≤ 0
    · rw [if_pos h, if_pos h]
    · rw [if_neg h, if_neg h, oR_22, Option.bind_some, oA_22, i20, if_pos rfl, k20, Option.bind_some, d22, ov_isO, Option.bind_some]
      rfl
  by_cases h : v2 ≤ 0
  · rw [show gK K a c d i v2 v4 = tK K1 a c v2 v4 by rw [hK1]; exact if_pos h, show gC c v2 v4 = tC c v2 v4 from if_pos h]
    obtain ⟨M', t1, t2, t3, t4, t5, t6, t7, t8⟩ := led_tail (mb := mb) (N := N) (v2 := v2) (v4 := v4) hG n1 ha (fun w => by rw [if_pos h, if_neg w] at hc; omega) hv (by omega : i < 20) d49 hd2 d22
    refine ⟨M', ⟨_, a + 1, sh, _, t1, ?_⟩, ⟨fun g hg => (t2.1 g hg).trans (E1.1 g hg), fun g hg => (t2.2.1 g hg).trans (E1.2.1 g hg), t2.2.2.trans E1.2.2⟩, ⟨fun k x y z => (t3.1 k x y z).trans (F1.1 k x y z), fun k x y z w => (t3.2.1 k x y z w).trans (F1.2.1 k x y z w), fun k x => (t3.2.2 k x).trans (F1.2.2 k x)⟩, t6.trans d8, fun σ sz s0 s1 hr => ?_, fun ρ => ?_⟩
    · rw [t4, n2]
      have : a ≤ c + bkN (M.2.1 50) a := hle
      show a + 1 ≤ _ + (bkN (M.2.1 50) a + 1)
      omega
    · rw [cls σ sz s0 s1 hr, if_pos h, t7]
    · rw [rf, if_pos h, t8]
  · have hcc : c < 200 := by
      rw [if_neg h] at hc
      split at hc <;> omega
    have L2 := n1.enter (x := 1) (y := 2) (d := d) (v := v2) hcc (by decide) (by decide) d49 hd2
    have xe : ∀ σ, f_X3_enter (ovk A W K1 σ) (A 17 0) 1 2 v2 = some (iI ((c + 1 : Nat) : Int), ovk A W (eK K1 a c (iI (1 : Nat)) (iI (2 : Nat)) v2) σ) := fun σ => x_enter hG k8 k4 ha hcc
    have me : ∀ ρ, f_X12_enters (ov mb M1 ρ) mb (iI (d : Nat)) 1 2 v2 = some ((), ov mb (eM M1 c (iI (d : Nat)) (iI (1 : Nat)) (iI (2 : Nat)) v2) ρ) := fun ρ => m_enters m4 hcc
    rw [show gK K a c d i v2 v4 = tK (eK K1 a c (iI (1 : Nat)) (iI (2 : Nat)) v2) a (c + 1) v2 v4 by rw [hK1]; exact if_neg h, show gC c v2 v4 = tC (c + 1) v2 v4 from if_neg h]
    obtain ⟨M', t1, t2, t3, t4, t5, t6, t7, t8⟩ := led_tail (mb := mb) (N := N) (v2 := v2) (v4 := v4) hG L2 ha (fun w => by rw [if_neg h, if_neg w] at hc; omega) hv (by omega : i < 20) d49 hd2 d22
    have E2 : KE K (eK K1 a c (iI (1 : Nat)) (iI (2 : Nat)) v2) := eK_E E1
    have F2 : ME M (eM M1 c (iI (d : Nat)) (iI (1 : Nat)) (iI (2 : Nat)) v2) := eM_E F1
    refine ⟨M', ⟨_, a + 1, sh, _, t1, ?_⟩, ⟨fun g hg => (t2.1 g hg).trans (E2.1 g hg), fun g hg => (t2.2.1 g hg).trans (E2.2.1 g hg), t2.2.2.trans E2.2.2⟩, ⟨fun k x y z => (t3.1 k x y z).trans (F2.1 k x y z), fun k x y z w => (t3.2.1 k x y z w).trans (F2.2.1 k x y z w), fun k x => (t3.2.2 k x).trans (F2.2.2 k x)⟩, t6.trans d8, fun σ sz s0 s1 hr => ?_, fun ρ => ?_⟩
    · rw [t4]
      show a + 1 ≤ _ + bkN (M1.2.1 50) (a + 1)
      rw [n2]
      have : a ≤ c + bkN (M.2.1 50) a := hle
      show a + 1 ≤ _ + (bkN (M.2.1 50) a + 1)
      omega
    · rw [cls σ sz s0 s1 hr, if_neg h, xe, Option.bind_some, t7]
    · rw [rf, if_neg h, me, Option.bind_some, t8]
end BM
