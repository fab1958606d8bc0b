/-! ===== the reference: acts on values ===== -/
/-- the same but for scratch and what is told -/
def Sd (M M' : MS) : Prop := (∀ k, k ≠ 2 → k ≠ 8 → M'.1 k = M.1 k) ∧ (∀ k, k ≠ 0 → k ≠ 1 → M'.2.1 k = M.2.1 k) ∧ M'.2.2 = M.2.2
theorem Sc.sd {M M' : MS} (h : Sc M M') : Sd M M' := ⟨fun k a _ => h.1 k a, h.2.1, h.2.2⟩
theorem Sd.rf {M : MS} : Sd M M := ⟨fun _ _ _ => rfl, fun _ _ _ => rfl, rfl⟩
theorem Sd.tr {M M' M'' : MS} (h : Sd M M') (h' : Sd M' M'') : Sd M M'' := ⟨fun k a b => (h'.1 k a b).trans (h.1 k a b), fun k a b => (h'.2.1 k a b).trans (h.2.1 k a b), h'.2.2.trans h.2.2⟩
theorem Sd.u8 {M : MS} {v : Int32} : Sd M (uI M 8 v) := ⟨fun k _ hk => va_up_ne _ _ hk, fun _ _ _ => rfl, rfl⟩
theorem u8_v {M : MS} {v : Int32} : (uI M 8 v).1 8 = v := by rw [uI_v, if_pos rfl]
theorem sgn_f (n : Nat) : sgn false n = n := rfl
theorem sgn_t (n : Nat) : sgn true n = -n := rfl
theorem MV.sd {M M' : MS} {k : Nat} {u s : Int} (h : MV M k u s) (hs : Sd M M') : MV M' k u s := by
  obtain ⟨a, b, c⟩ := h
  unfold MV
  rw [hs.2.1 5 (by decide) (by decide), hs.2.1 4 (by decide) (by decide), hs.2.2]
  exact ⟨a, b, c⟩
theorem lay_a {M : MS} {t k i : Nat} {u s : Int} : (lay M t u s).2.1 k i = if k = 5 ∧ i = t then 1 else if k = 4 ∧ i = t then iI s else M.2.1 k i := by
  unfold lay
  rw [uA_v, uA_v, uL_a]
theorem lay_l {M : MS} {t k i : Nat} {u s : Int} : (lay M t u s).2.2 k i = if k = 3 ∧ i = t then iL u else M.2.2 k i := by
  unfold lay
  rw [uA_l, uA_l, uL_v]
theorem lay_sd {M M' : MS} {t : Nat} {u s : Int} (h : Sd M M') : Sd (lay M t u s) (lay M' t u s) := by
  refine ⟨fun k a b => h.1 k a b, fun k a b => ?_, ?_⟩
  · funext i
    rw [lay_a, lay_a, h.2.1 k a b]
  · funext k
    funext i
    rw [lay_l, lay_l, h.2.2]
theorem lay_MV {M : MS} {t : Nat} {u s : Int} : MV (lay M t u s) t u s := by
  refine ⟨?_, ?_, ?_⟩
  · rw [lay_a, if_pos ⟨rfl, rfl⟩]
  · rw [lay_l, if_pos ⟨rfl, rfl⟩]
  · rw [lay_a, if_neg (by simp), if_pos ⟨rfl, rfl⟩]
/-- what a call that lays a value comes to -/
def MR (r : Option (Int × Int)) (code : Nat) (ans : Int → Int → Int32) (mb : Nat) (M : MS) (σ : Sto) (t : Nat) (o : Option (Int32 × Sto)) : Prop := (r = none ∧ ∃ M', o = some (0, ov mb M' σ) ∧ Sd M M' ∧ M'.1 8 = iI (code : Nat)) ∨ ∃ u s M', r = some (u, s) ∧ o = some (ans u s, ov mb M' σ) ∧ Sd (lay M t u s) M' ∧ M'.1 8 = 0
theorem okZ_mL {mb : Nat} {M : MS} {σ : Sto} {t : Nat} {r : Option (Int × Int)} : (b2 (mL mb M σ t r) fun x4 τ5 => if okZ x4 = true then some (x4, τ5) else none) = mL mb M σ t r := by
  cases r <;> rfl
/-- the end: laid, then told -/
theorem MR_end {r : Option (Int × Int)} {code : Nat} {ans : Int → Int → Int32} {mb : Nat} {M M1 : MS} {σ : Sto} {t : Nat} {E : Int32 → Sto → Option (Int32 × Sto)} (hc : code ≠ 0) (hc2 : code < 100) (hs : Sd M M1) (hE : ∀ (c : Nat) (M2 : MS), c = code → E (iI (c : Nat)) (ov mb M2 σ) = some (0, ov mb (uI M2 8 (iI (c : Nat))) σ)) (hE0 : ∀ (u s : Int) (M2 : MS), r = some (u, s) → MV M2 t u s → E 0 (ov mb M2 σ) = some (ans u s, ov mb (uI M2 8 0) σ)) : MR r code ans mb M σ t (b2 (mL mb M1 σ t r) fun x τ => if x = 0 then E (iI (code : Nat)) τ else E 0 τ) := by
  cases r with
  | none =>
    refine Or.inl ⟨rfl, uI M1 8 (iI (code : Nat)), hE code M1 rfl, hs.tr Sd.u8, u8_v⟩
  | some q =>
    refine Or.inr ⟨q.1, q.2, uI (lay M1 t q.1 q.2) 8 0, rfl, hE0 q.1 q.2 _ rfl lay_MV, (lay_sd hs).tr Sd.u8, u8_v⟩
theorem sgn_mul (b : Bool) (n p : Nat) : sgn b (n * p) = sgn b n * (p : Int) := by
  unfold sgn
  cases b
  · rw [if_neg (by decide), if_neg (by decide), Int.natCast_mul]
  · rw [if_pos rfl, if_pos rfl, Int.natCast_mul, Int.neg_mul]
theorem sgn_al (u s S : Int) : sgn (ng u) (u.natAbs * 10 ^ (S - s).toNat) = al u s S := by
  rw [sgn_mul, sgn_ng]
  rfl
theorem sgn_not (b : Bool) (n : Nat) : sgn (!b) n = -sgn b n := by
  cases b
  · rfl
  · show (n : Int) = - -(n : Int)
    omega
section MW
variable {mb : Nat} {M : MS} {σ : Sto} {k k' t N : Nat} {u s u' s' : Int}
theorem m_sums_76 {a b : Nat} {n1 n2 : Bool} {S : Int} (ht : t < 12) (ha : Hv M 4 a) (hb : Hv M 5 b) (h1 : nd a ≤ 200) (h2 : nd b ≤ 200) (hS : -1000 ≤ S ∧ S ≤ 1000) (hN : 600 ≤ N) : ∃ M', b_X12_sums_76 N (ov mb M σ) mb (iI (t : Nat)) (iI S) (bI n1) (bI n2) = mL mb M' σ t (chk (sgn n1 a + sgn n2 b) S) ∧ Sc M M' := by
  unfold b_X12_sums_76
  by_cases he : n1 = n2
  · subst he
    obtain ⟨M1, a1, a2, a3⟩ := m_plus (mb := mb) (σ := σ) (a := 4) (b := 5) (N := N) (by decide) (by decide) (by decide) ha hb (by omega) (by omega) (by omega)
    have e1 : f_X12_plus N (ov mb M σ) mb 4 5 = some ((), ov mb M1 σ) := a1
    have key := m_lays (mb := mb) (M := M1) (σ := σ) (k := t) (r := 4) (b := n1) (s := S) (N := N) ht (by decide) a3 ⟨by omega, by omega⟩ (by omega)
    have e2 : f_X12_lays N (ov mb M1 σ) mb (iI (t : Nat)) 4 (bI n1) (iI S) = mL mb M1 σ t (chk (sgn n1 (a + b)) S) := key
    have e3 : sgn n1 (a + b) = sgn n1 a + sgn n1 b := by
      unfold sgn
      cases n1
      · rw [if_neg (by decide), if_neg (by decide), if_neg (by decide)]; omega
      · rw [if_pos rfl, if_pos rfl, if_pos rfl]; omega
    rw [if_pos rfl, ov_isO, Option.bind_some, e1]
    refine ⟨M1, ?_, a2.sc⟩
    show (isO (ov mb M1 σ) mb 11).bind _ = _
    rw [ov_isO, Option.bind_some, e2, okZ_mL, e3]
  · have hne : ¬ bI n1 = bI n2 := by
      revert he
      cases n1 <;> cases n2 <;> decide
    have e2' : n2 = !n1 := by
      revert he
      cases n1 <;> cases n2 <;> decide
    subst e2'
    have cm : f_X12_compares N (ov mb M σ) mb 4 5 = some (iI (cmpN a b)) := m_compares (a := 4) (b := 5) (by decide) (by decide) ha hb (by omega)
    rw [if_neg hne, ov_isO, Option.bind_some, cm, Option.bind_some]
    by_cases hlt : a < b
    · obtain ⟨M1, a1, a2, a3⟩ := m_less (mb := mb) (σ := σ) (a := 5) (b := 4) (N := N) (by decide) (by decide) (by decide) hb ha (by omega) (by omega)
      have e1 : f_X12_less N (ov mb M σ) mb 5 4 = some ((), ov mb M1 σ) := a1
      have key := m_lays (mb := mb) (M := M1) (σ := σ) (k := t) (r := 5) (b := !n1) (s := S) (N := N) ht (by decide) a3 ⟨by omega, by omega⟩ (by omega)
      have e2 : f_X12_lays N (ov mb M1 σ) mb (iI (t : Nat)) 5 (bI (!n1)) (iI S) = mL mb M1 σ t (chk (sgn (!n1) (b - a)) S) := key
      have e3 : sgn (!n1) (b - a) = sgn n1 a + sgn (!n1) b := by
        cases n1
        · show -((b - a : Nat) : Int) = (a : Int) + -(b : Int); omega
        · show ((b - a : Nat) : Int) = -(a : Int) + (b : Int); omega
      rw [if_pos (cmpN_neg.mpr hlt), e1]
      refine ⟨M1, ?_, a2.sc⟩
      show (isO (ov mb M1 σ) mb 11).bind _ = _
      rw [ov_isO, Option.bind_some, e2, okZ_mL, e3]
    · obtain ⟨M1, a1, a2, a3⟩ := m_less (mb := mb) (σ := σ) (a := 4) (b := 5) (N := N) (by decide) (by decide) (by decide) ha hb (by omega) (by omega)
      have e1 : f_X12_less N (ov mb M σ) mb 4 5 = some ((), ov mb M1 σ) := a1
      have key := m_lays (mb := mb) (M := M1) (σ := σ) (k := t) (r := 4) (b := n1) (s := S) (N := N) ht (by decide) a3 ⟨by omega, by omega⟩ (by omega)
      have e2 : f_X12_lays N (ov mb M1 σ) mb (iI (t : Nat)) 4 (bI n1) (iI S) = mL mb M1 σ t (chk (sgn n1 (a - b)) S) := key
      have e3 : sgn n1 (a - b) = sgn n1 a + sgn (!n1) b := by
        cases n1
        · show ((a - b : Nat) : Int) = (a : Int) + -(b : Int); omega
        · show -((a - b : Nat) : Int) = -(a : Int) + (b : Int); omega
      rw [if_neg (fun w => hlt (cmpN_neg.mp w)), e1]
      refine ⟨M1, ?_, a2.sc⟩
      show (isO (ov mb M1 σ) mb 11).bind _ = _
      rw [ov_isO, Option.bind_some, e2, okZ_mL, e3]
theorem m_sums {tb : Bool} (hk : k < 12) (hk' : k' < 12) (ht : t < 12) (hv : MV M k u s) (hv' : MV M k' u' s') (hg : RgV u s) (hg' : RgV u' s') (hN : 600 ≤ N) : ∃ M', f_X12_sums N (ov mb M σ) mb (iI (k : Nat)) (iI (k' : Nat)) (bI tb) (iI (t : Nat)) = mL mb M' σ t (chk (al u s (mxI s s') + (if tb = true then -al u' s' (mxI s s') else al u' s' (mxI s s'))) (mxI s s')) ∧ Sc M M' := by
  have ⟨g1, g2, g3, g4⟩ := hg
  have ⟨h1, h2, h3, h4⟩ := hg'
  obtain ⟨k1, k2⟩ := aI12 hk
  obtain ⟨q1, q2⟩ := aI12 hk'
  obtain ⟨m1, m2, m3⟩ := mxI_v s s'
  obtain ⟨M1, a1, a2, a3⟩ := m_as (mb := mb) (σ := σ) (r := 4) (S := mxI s s') (N := N) hk (by decide) hv hg ⟨m1, by omega⟩ hN
  obtain ⟨M2, b1, b2', b3'⟩ := m_as (mb := mb) (M := M1) (σ := σ) (r := 5) (S := mxI s s') (N := N) hk' (by decide) (hv'.sc a2.sc) hg' ⟨m2, by omega⟩ hN
  have a4 := b2'.Hv (r := 4) (by decide) a3
  have S2 := a2.sc.tr b2'.sc
  have v2 := hv.sc S2
  have v2' := hv'.sc S2
  have e1 : f_X12_as N (ov mb M σ) mb 4 (iI (k : Nat)) (iI (mxI s s')) = some ((), ov mb M1 σ) := a1
  have e2 : f_X12_as N (ov mb M1 σ) mb 5 (iI (k' : Nat)) (iI (mxI s s')) = some ((), ov mb M2 σ) := b1
  have sz : ∀ (v t : Int), v.natAbs ≤ 999999999999999999 → -18 ≤ t → t ≤ mxI s s' → nd (v.natAbs * 10 ^ (mxI s s' - t).toNat) ≤ 200 := by
    intro v t h5 h6 h7
    have n1 := nd_mul v.natAbs (10 ^ (mxI s s' - t).toNat)
    have n2 : nd v.natAbs ≤ 18 := nd_le.mp (by omega)
    have n3 : nd (10 ^ (mxI s s' - t).toNat) ≤ (mxI s s' - t).toNat + 1 := nd_le.mp (by rw [Nat.pow_succ]; have := pow10_pos (mxI s s' - t).toNat; omega)
    omega
  obtain ⟨M3, c1, c2⟩ := m_sums_76 (mb := mb) (σ := σ) (t := t) (n1 := ng u) (n2 := (ng u' != tb)) (S := mxI s s') (N := N) ht a4 b3' (sz u s (by omega) g3 m1) (sz u' s' (by omega) h3 m2) ⟨by omega, by omega⟩ hN
  refine ⟨M3, ?_, S2.tr c2⟩
  have es : sgn (ng u' != tb) (u'.natAbs * 10 ^ (mxI s s' - s').toNat) = if tb = true then -al u' s' (mxI s s') else al u' s' (mxI s s') := by
    cases tb
    · rw [if_neg (by decide), Bool.bne_false]; exact sgn_al _ _ _
    · rw [if_pos rfl, Bool.bne_true, sgn_not, sgn_al]
  rw [sgn_al, es] at c1
  rw [← c1]
  unfold f_X12_sums
  simp only [oR_4, oA_4, Option.bind_some, k1, k2, q1, q2, if_true, hv.2.2, hv'.2.2]
  rw [m_greater ⟨by omega, by omega⟩ ⟨by omega, by omega⟩, Option.bind_some, ov_isO, Option.bind_some, e1]
  show (isO (ov mb M1 σ) mb 11).bind _ = _
  rw [ov_isO, Option.bind_some, e2]
  show (gR (ov mb M2 σ) mb 11 3).bind _ = _
  simp only [oR_3, oA_3, Option.bind_some, k1, k2, if_true, v2.2.1]
  rw [x_ng ⟨by omega, by omega⟩]
  have s49 : ∀ b : Bool, b_X12_sums_49 N (ov mb M2 σ) mb (iI (k' : Nat)) (bI tb) (iI (t : Nat)) (iI (mxI s s')) (bI b) = b_X12_sums_76 N (ov mb M2 σ) mb (iI (t : Nat)) (iI (mxI s s')) (bI b) (bI (ng u' != tb)) := by
    intro b
    unfold b_X12_sums_49
    simp only [oR_3, oA_3, Option.bind_some, q1, q2, if_true, v2'.2.1]
    rw [x_ng ⟨by omega, by omega⟩]
    unfold b_X12_sums_67
    cases ng u' <;> cases tb <;> rfl
  rw [← s49]
  cases ng u <;> rfl
theorem m_multiplies (hk : k < 12) (hk' : k' < 12) (ht : t < 12) (hv : MV M k u s) (hv' : MV M k' u' s') (hg : RgV u s) (hg' : RgV u' s') (hN : 600 ≤ N) : ∃ M', f_X12_multiplies N (ov mb M σ) mb (iI (k : Nat)) (iI (k' : Nat)) (iI (t : Nat)) = mL mb M' σ t (chk (u * u') (s + s')) ∧ Sc M M' := by
  have ⟨g1, g2, g3, g4⟩ := hg
  have ⟨h1, h2, h3, h4⟩ := hg'
  obtain ⟨k1, k2⟩ := aI12 hk
  obtain ⟨q1, q2⟩ := aI12 hk'
  obtain ⟨M1, a1, a2, a3⟩ := m_lets (mb := mb) (M := M) (σ := σ) (r := 4) (z := u) (N := N) (by decide) ⟨by omega, by omega⟩ (by omega)
  obtain ⟨M2, b1, b2', b3'⟩ := m_lets (mb := mb) (M := M1) (σ := σ) (r := 5) (z := u') (N := N) (by decide) ⟨by omega, by omega⟩ (by omega)
  have a4 := b2'.Hv (r := 4) (by decide) a3
  have n1 : nd u.natAbs ≤ 18 := nd_le.mp (by omega)
  have n2 : nd u'.natAbs ≤ 18 := nd_le.mp (by omega)
  obtain ⟨M3, c1, c2, c3⟩ := m_times (mb := mb) (σ := σ) (a := 4) (b := 5) (N := N) (by decide) (by decide) (by decide) a4 b3' (by omega) hN
  have S1 := a2.sc
  have S3 := (a2.sc.tr b2'.sc).tr c2.sc
  have v1' := hv'.sc S1
  have v3 := hv.sc S3
  have v3' := hv'.sc S3
  have e1 : f_X12_lets N (ov mb M σ) mb 4 (iL u) = some ((), ov mb M1 σ) := a1
  have e2 : f_X12_lets N (ov mb M1 σ) mb 5 (iL u') = some ((), ov mb M2 σ) := b1
  have e3 : f_X12_times N (ov mb M2 σ) mb 4 5 = some ((), ov mb M3 σ) := c1
  have key := m_lays (mb := mb) (M := M3) (σ := σ) (k := t) (r := 4) (b := (ng u != ng u')) (s := s + s') (N := N) ht (by decide) c3 ⟨by omega, by omega⟩ (by omega)
  have es : sgn (ng u != ng u') (u.natAbs * u'.natAbs) = u * u' := by
    have p1 : sgn (ng u) (u.natAbs * u'.natAbs) = u * (u'.natAbs : Int) := by rw [sgn_mul, sgn_ng]
    by_cases hn : u' < 0
    · have : ng u' = true := decide_eq_true hn
      rw [this, Bool.bne_true, sgn_not, p1, show (u'.natAbs : Int) = -u' by omega, Int.mul_neg, Int.neg_neg]
    · have : ng u' = false := decide_eq_false hn
      rw [this, Bool.bne_false, p1, show (u'.natAbs : Int) = u' by omega]
  rw [es] at key
  refine ⟨M3, ?_, S3⟩
  rw [← key]
  have h71 : ∀ b : Bool, b_X12_multiplies_71 N (ov mb M3 σ) mb (iI (k : Nat)) (iI (k' : Nat)) (bI b) 4 (iI (t : Nat)) mb = b2 (f_X12_lays N (ov mb M3 σ) mb (iI (t : Nat)) (iI ((4 : Nat) : Int)) (bI b) (iI (s + s'))) fun x6 τ7 => if okZ x6 = true then some (x6, τ7) else none := by
    intro b
    unfold b_X12_multiplies_71
    simp only [oR_4, oA_4, Option.bind_some, k1, k2, q1, q2, if_true, v3.2.2, v3'.2.2]
    rw [ov_isO, Option.bind_some, iI_add]
    rfl
  have h47 : ∀ b : Bool, b_X12_multiplies_47 N (ov mb M3 σ) mb (iI (k : Nat)) (iI (k' : Nat)) (bI b) 4 (iI (t : Nat)) mb = b_X12_multiplies_71 N (ov mb M3 σ) mb (iI (k : Nat)) (iI (k' : Nat)) (bI (b != ng u')) 4 (iI (t : Nat)) mb := by
    intro b
    unfold b_X12_multiplies_47
    simp only [oR_3, oA_3, Option.bind_some, q1, q2, if_true, v3'.2.1]
    rw [x_ng ⟨by omega, by omega⟩]
    unfold b_X12_multiplies_63
    cases ng u' <;> cases b <;> rfl
  unfold f_X12_multiplies
  simp only [oR_3, oA_3, Option.bind_some, k1, k2, if_true, hv.2.1]
  rw [ov_isO, Option.bind_some, e1]
  show (gR (ov mb M1 σ) mb 11 3).bind _ = _
  simp only [oR_3, oA_3, Option.bind_some, q1, q2, if_true, v1'.2.1]
  rw [ov_isO, Option.bind_some, e2]
  show (isO (ov mb M2 σ) mb 11).bind _ = _
  rw [ov_isO, Option.bind_some, e3]
  show (gR (ov mb M3 σ) mb 11 3).bind _ = _
  simp only [oR_3, oA_3, Option.bind_some, k1, k2, if_true, v3.2.1]
  rw [x_ng ⟨by omega, by omega⟩]
  have fin := h47 (ng u)
  rw [h71, key, okZ_mL, ← key] at fin
  rw [← fin]
  cases ng u <;> rfl
/-- a value in units of a scale, rounded -/
theorem m_scales {w : Int} {m : Int32} (hk : k < 12) (hv : MV M k u s) (hg : RgV u s) (hw : -100 ≤ w ∧ w ≤ 100) (hN : 600 ≤ N) : ∃ M', f_X12_scales N (ov mb M σ) mb (iI (k : Nat)) (iI w) m = some ((), ov mb M' σ) ∧ Sc M M' ∧ M'.1 2 = (if (u.natAbs * 10 ^ (w - s).toNat) % 10 ^ (s - w).toNat ≠ 0 ∧ m = 110 then 1 else 0) ∧ Hv M' 2 (rq (ng u) m (u.natAbs * 10 ^ (w - s).toNat) (10 ^ (s - w).toNat)) := by
  have ⟨g1, g2, g3, g4⟩ := hg
  obtain ⟨k1, k2⟩ := aI12 hk
  have v0 : MV (uI M 2 0) k u s := hv.sc Sc.ui
  obtain ⟨M1, a1, a2, a3⟩ := m_lets (mb := mb) (M := uI M 2 0) (σ := σ) (r := 0) (z := u) (N := N) (by decide) ⟨by omega, by omega⟩ (by omega)
  have n1 : nd u.natAbs ≤ 18 := nd_le.mp (by omega)
  obtain ⟨M2, b1, b2', b3'⟩ := m_shifts (mb := mb) (M := M1) (σ := σ) (r := 0) (z := w - s) (N := N) (by decide) ⟨by omega, by omega⟩ a3 (Or.inr (by omega)) hN
  obtain ⟨M3, c1, c2, c3⟩ := m_lets (mb := mb) (M := M2) (σ := σ) (r := 1) (z := 1) (N := N) (by decide) ⟨by decide, by decide⟩ (by omega)
  obtain ⟨M4, d1, d2, d3⟩ := m_shifts (mb := mb) (M := M3) (σ := σ) (r := 1) (v := 1) (z := s - w) (N := N) (by decide) ⟨by omega, by omega⟩ c3 (Or.inr (by have : nd 1 ≤ 1 := nd_le.mp (by decide); omega)) hN
  rw [Nat.one_mul] at d3
  have S1 : Sc M M1 := Sc.ui.tr a2.sc
  have S3 : Sc M M3 := (S1.tr b2'.sc).tr c2.sc
  have S4 : Sc M M4 := S3.tr d2.sc
  have x4 := d2.Hv (r := 0) (by decide) (c2.Hv (r := 0) (by decide) b3')
  have f4 : M4.1 2 = 0 := by rw [d2.1, c2.1, b2'.1, a2.1, uI_v, if_pos rfl]
  have sz : nd (u.natAbs * 10 ^ (w - s).toNat) ≤ 239 := by
    have n2 := nd_mul u.natAbs (10 ^ (w - s).toNat)
    have n3 : nd (10 ^ (w - s).toNat) ≤ (w - s).toNat + 1 := nd_le.mp (by rw [Nat.pow_succ]; have := pow10_pos (w - s).toNat; omega)
    omega
  have sz2 : nd (10 ^ (s - w).toNat) ≤ 230 := by
    have n3 : nd (10 ^ (s - w).toNat) ≤ (s - w).toNat + 1 := nd_le.mp (by rw [Nat.pow_succ]; have := pow10_pos (s - w).toNat; omega)
    omega
  obtain ⟨M5, q1, q2, q3, q4⟩ := m_rounds (mb := mb) (M := M4) (σ := σ) (neg := ng u) (m := m) (N := N) x4 d3 (pow10_pos _) sz sz2 (Or.inl f4) hN
  refine ⟨M5, ?_, S4.tr q2, by rw [q3, f4], q4⟩
  have e1 : f_X12_lets N (ov mb (uI M 2 0) σ) mb 0 (iL u) = some ((), ov mb M1 σ) := a1
  have e2 : f_X12_shifts N (ov mb M1 σ) mb 0 (iI (w - s)) = some ((), ov mb M2 σ) := b1
  have e3 : f_X12_lets N (ov mb M2 σ) mb 1 1 = some ((), ov mb M3 σ) := c1
  have e4 : f_X12_shifts N (ov mb M3 σ) mb 1 (iI (s - w)) = some ((), ov mb M4 σ) := d1
  have w1 := hv.sc S1
  have w3 := hv.sc S3
  have w4 := hv.sc S4
  unfold f_X12_scales
  rw [oP_2, Option.bind_some]
  simp only [oR_3, oA_3, Option.bind_some, k1, k2, if_true, v0.2.1]
  rw [ov_isO, Option.bind_some, e1]
  show (gR (ov mb M1 σ) mb 11 4).bind _ = _
  simp only [oR_4, oA_4, Option.bind_some, k1, k2, if_true, w1.2.2]
  rw [ov_isO, Option.bind_some, iI_sub, e2]
  show (isO (ov mb M2 σ) mb 11).bind _ = _
  rw [ov_isO, Option.bind_some, e3]
  show (gR (ov mb M3 σ) mb 11 4).bind _ = _
  simp only [oR_4, oA_4, Option.bind_some, k1, k2, if_true, w3.2.2]
  rw [ov_isO, Option.bind_some, iI_sub, e4]
  show (gR (ov mb M4 σ) mb 11 3).bind _ = _
  simp only [oR_3, oA_3, Option.bind_some, k1, k2, if_true, w4.2.1]
  rw [x_ng ⟨by omega, by omega⟩]
  have e5 : ∀ b : Bool, b_X12_scales_65 N (ov mb M4 σ) m (bI b) mb = b2 (f_X12_rounds N (ov mb M4 σ) mb (bI b) m) fun x2 τ3 => some ((), τ3) := by
    intro b
    unfold b_X12_scales_65
    rw [ov_isO, Option.bind_some]
  have fin := e5 (ng u)
  rw [q1] at fin
  refine Eq.trans ?_ fin
  cases ng u <;> rfl
end MW
