/-! ===== something is told of a kind ===== -/
def upT (T : Nat → Nat → Option Int32) (k p : Nat) (v : Int32) : Nat → Nat → Option Int32 := fun k' p' => if k' = k ∧ p' = p then some v else T k' p'
theorem upT_s {T : Nat → Nat → Option Int32} {k p : Nat} {v : Int32} : upT T k p v k p = some v := if_pos ⟨rfl, rfl⟩
theorem upT_n {T : Nat → Nat → Option Int32} {k p k' p' : Nat} {v : Int32} (h : ¬ (k' = k ∧ p' = p)) : upT T k p v k' p' = T k' p' := if_neg h
/-- the place of a number in a row, or the row's end -/
def Pos (f : Nat → Int32) (c : Int32) (n pos : Nat) : Prop := pos ≤ n ∧ (∀ i, i < pos → f i ≠ c) ∧ (pos = n ∨ f pos = c)
theorem Pos.ex (f : Nat → Int32) (c : Int32) (n : Nat) : ∃ pos, Pos f c n pos := by
  induction n with
  | zero => exact ⟨0, Nat.le_refl _, fun i hi => absurd hi (by omega), Or.inl rfl⟩
  | succ n ih =>
    obtain ⟨pos, h1, h2, h3⟩ := ih
    by_cases e : pos = n
    · subst e
      by_cases h : f pos = c
      · exact ⟨pos, by omega, h2, Or.inr h⟩
      · refine ⟨pos + 1, Nat.le_refl _, fun i hi => ?_, Or.inl rfl⟩
        by_cases e : i = pos
        · subst e; exact h
        · exact h2 i (by omega)
    · refine ⟨pos, by omega, h2, Or.inr ?_⟩
      rcases h3 with h | h
      · exact absurd h e
      · exact h
section TE
variable {mb ni sz N j k cnt p n : Nat} {A : AM} {W : WM} {K K' : KS} {M : MS} {σ : Sto} {T : Nat → Nat → Option Int32} {v : Int32}
theorem x_placeOf (hG : Gk ni A W) (hj : j < 12) (h2 : K.1 26 j 2 = iI (cnt : Nat)) (hc : cnt ≤ K.2.2.2 27 j) (hc2 : cnt ≤ 512) {pos : Nat} {c : Int32} (hP : Pos (K.1 27 j) c cnt pos) (hN : 1000 ≤ N) : f_X8_placeOf N (ovk A W K σ) (A 26 j) c = some (iI (pos : Nat)) := by
  obtain ⟨p1, p2, p3⟩ := hP
  unfold f_X8_placeOf b_X8_placeOf_2
  have ii : ∀ i, i < cnt → inB (iI (i : Nat)) (K.2.2.2 27 j) = true := fun i hi => by
    rw [iI_inB ⟨by omega, by omega⟩]
    omega
  refine lp_for (n := pos) (st := fun k => (ovk A W K σ, A 26 j, c, iI (k : Nat))) (fun k hk KK => ?_) (fun KK => ?_) N 0 (Nat.zero_le _) (by omega)
  · dsimp only
    unfold b_X8_placeOf_2_body
    rw [xI_26_2 hG hj, Option.bind_some, h2, if_neg (fun z => by rw [jI_le (by omega) (by omega)] at z; omega), xR_26_0 hG hj, Option.bind_some, xA_27 hG hj, ii k (by omega), if_pos rfl, clN (by omega), Option.bind_some, if_neg (p2 k hk)]
    dsimp only [lt_]
    rw [jI_s]
  · dsimp only
    unfold b_X8_placeOf_2_body
    rw [xI_26_2 hG hj, Option.bind_some, h2]
    by_cases e : pos = cnt
    · rw [e, if_pos (by rw [jI_le (by omega) (by omega)]; omega), Option.bind_some]
    · have p4 : K.1 27 j pos = c := by
        rcases p3 with h | h
        · exact absurd h e
        · exact h
      rw [if_neg (fun z => by rw [jI_le (by omega) (by omega)] at z; omega), xR_26_0 hG hj, Option.bind_some, xA_27 hG hj, ii pos (by omega), if_pos rfl, clN (by omega), Option.bind_some, if_pos p4]
/-- the row's cells with one more told -/
def toK (K : KS) (j pos p cnt : Nat) (v : Int32) : KS := kI (kI (kI K 27 j pos (iI (p : Nat))) 28 j pos v) 26 j 2 (iI ((if pos = cnt then cnt + 1 else cnt : Nat) : Int))
theorem x_tell19 (hG : Gk ni A W) (hj : j < 12) (h2 : K.1 26 j 2 = iI (cnt : Nat)) {pos : Nat} (hp : pos ≤ cnt) (h7 : pos < K.2.2.2 27 j) (h8 : pos < K.2.2.2 28 j) (hc2 : cnt ≤ 512) : b_X8_tell_19 N (ovk A W K σ) sz (A 26 j) (iI (p : Nat)) v (iI (pos : Nat)) = some (iI ((if pos = cnt then cnt + 1 else cnt : Nat) : Int), ovk A W (toK K j pos p cnt v) σ, sz) := by
  have i7 : inB (iI (pos : Nat)) (K.2.2.2 27 j) = true := (iI_inB ⟨by omega, by omega⟩).mpr ⟨by omega, by omega⟩
  have i8 : inB (iI (pos : Nat)) ((kI K 27 j pos (iI (p : Nat))).2.2.2 28 j) = true := (iI_inB ⟨by omega, by omega⟩).mpr ⟨by omega, by show (pos : Int) < (K.2.2.2 28 j : Nat); omega⟩
  have kp : (iI (pos : Nat)).toNatClampNeg = pos := clN (by omega)
  unfold b_X8_tell_19
  rw [xR_26_0 hG hj, Option.bind_some, xS_27 hG hj, i7, if_pos rfl, kp, Option.bind_some, xR_26_1 hG hj, Option.bind_some, xS_28 hG hj, i8, if_pos rfl, kp, Option.bind_some, xI_26_2 hG hj, Option.bind_some]
  have e2 : (kI (kI K 27 j pos (iI (p : Nat))) 28 j pos v).1 26 j 2 = iI (cnt : Nat) := by
    rw [kI_v, if_neg (by omega), kI_v, if_neg (by omega)]; exact h2
  have em : (if iI (cnt : Nat) < iI (pos : Nat) + 1 then iI (pos : Nat) + 1 else iI (cnt : Nat)) = iI ((if pos = cnt then cnt + 1 else cnt : Nat) : Int) := by
    rw [jI_s]
    have l : iI (cnt : Nat) < iI ((pos + 1 : Nat) : Int) ↔ cnt < pos + 1 := jI_lt (by omega) (by omega)
    by_cases e : pos = cnt
    · rw [if_pos (l.mpr (by omega)), if_pos e, e]
    · rw [if_neg (fun z => e (by have := l.mp z; omega)), if_neg e]
  rw [e2, em, xP_26_2 hG hj, Option.bind_some, xI_26_2 hG hj, Option.bind_some]
  have e3 : (toK K j pos p cnt v).1 26 j 2 = iI ((if pos = cnt then cnt + 1 else cnt : Nat) : Int) := by
    unfold toK
    rw [kI_v, if_pos ⟨rfl, rfl, rfl⟩]
  show some ((toK K j pos p cnt v).1 26 j 2, _, _) = _
  rw [e3]
  rfl
theorem toK_o {pos : Nat} : (toK K j pos p cnt v).2 = K.2 := rfl
theorem toK_1 {pos g j' : Nat} (h : ¬ ((g = 26 ∨ g = 27 ∨ g = 28) ∧ j' = j)) : (toK K j pos p cnt v).1 g j' = K.1 g j' := by
  funext q
  unfold toK
  rw [kI_v, if_neg (by omega), kI_v, if_neg (by omega), kI_v, if_neg (by omega)]
theorem toK_27 {pos i : Nat} : (toK K j pos p cnt v).1 27 j i = if i = pos then iI (p : Nat) else K.1 27 j i := by
  unfold toK
  rw [kI_v, if_neg (by omega), kI_v, if_neg (by omega), kI_v]
  by_cases e : i = pos
  · rw [if_pos ⟨rfl, rfl, e⟩, if_pos e]
  · rw [if_neg (fun z => e z.2.2), if_neg e]
theorem toK_28 {pos i : Nat} : (toK K j pos p cnt v).1 28 j i = if i = pos then v else K.1 28 j i := by
  unfold toK
  rw [kI_v, if_neg (by omega), kI_v]
  by_cases e : i = pos
  · rw [if_pos ⟨rfl, rfl, e⟩, if_pos e]
  · rw [if_neg (fun z => e z.2.2), if_neg e, kI_v, if_neg (by omega)]
theorem toK_26 {pos : Nat} : (toK K j pos p cnt v).1 26 j 2 = iI ((if pos = cnt then cnt + 1 else cnt : Nat) : Int) := by
  unfold toK
  rw [kI_v, if_pos ⟨rfl, rfl, rfl⟩]
/-- what was told, and one more: over a row that may have grown -/
theorem StT.up {pos : Nat} (hS : StT T K j k cnt) (hp : p < 1000000) (hP : Pos (K.1 27 j) (iI (p : Nat)) cnt pos) (h6 : K'.1 26 j = K.1 26 j) (h7 : ∀ i, i < cnt → K'.1 27 j i = K.1 27 j i ∧ K'.1 28 j i = K.1 28 j i) (hl : K'.2.2.2 28 j = K'.2.2.2 27 j) (hl2 : (K'.2.2.2 27 j = K.2.2.2 27 j ∧ pos < K.2.2.2 27 j) ∨ (pos = cnt ∧ cnt = K.2.2.2 27 j ∧ K'.2.2.2 27 j = 2 * cnt)) : StT (upT T k p v) (toK K' j pos p cnt v) j k (if pos = cnt then cnt + 1 else cnt) ∧ (T k p = none ↔ pos = cnt) := by
  obtain ⟨s1, s2, s3, s4, s5, s6, s7, s8⟩ := hS
  obtain ⟨p1, p2, p3⟩ := hP
  have hit : pos < cnt → K.1 27 j pos = iI (p : Nat) := fun h => by
    rcases p3 with e | e
    · omega
    · exact e
  have ne : ∀ i, i < cnt → i ≠ pos → K.1 27 j i ≠ iI (p : Nat) := fun i hi e h => by
    by_cases hlt : pos < cnt
    · exact e (s7 i pos hi hlt (h.trans (hit hlt).symm))
    · exact p2 i (by omega) h
  have iff : T k p = none ↔ pos = cnt := by
    constructor
    · intro h
      by_cases e : pos = cnt
      · exact e
      · obtain ⟨q, q1, q2, q3⟩ := s6 pos (by omega)
        rw [hit (by omega)] at q2
        have := (jI_eq (by omega) (by omega)).mp q2
        rw [← this, h] at q3
        cases q3
    · intro e
      by_cases h : T k p = none
      · exact h
      · obtain ⟨i, h1, h2⟩ := s8 p h
        exact absurd h2 (ne i h1 (by omega))
  obtain ⟨c2, hc2⟩ : ∃ c2, c2 = if pos = cnt then cnt + 1 else cnt := ⟨_, rfl⟩
  have hc3 : pos < c2 ∧ cnt ≤ c2 ∧ ∀ i, i < c2 → i ≠ pos → i < cnt := by
    rw [hc2]
    split
    · exact ⟨by omega, by omega, fun i h1 h2 => by omega⟩
    · exact ⟨by omega, by omega, fun i h1 h2 => by omega⟩
  have hc4 : pos = cnt → c2 = cnt + 1 := fun e => by rw [hc2, if_pos e]
  have hc5 : c2 ≤ cnt + 1 ∧ (pos ≠ cnt → c2 = cnt) := ⟨by rw [hc2]; split <;> omega, fun e => by rw [hc2, if_neg e]⟩
  refine ⟨?_, iff⟩
  have k26 := toK_26 (K := K') (j := j) (p := p) (cnt := cnt) (v := v) (pos := pos)
  rw [← hc2] at k26 ⊢
  refine ⟨k26, ?_, ?_, ?_, ?_, fun i hi => ?_, fun i i' hi hi' h => ?_, fun p' h => ?_⟩
  · rw [toK_o]; show c2 ≤ K'.2.2.2 27 j; omega
  · rw [toK_o]; exact hl
  · rw [toK_o]; show 4 ≤ K'.2.2.2 27 j; omega
  · rw [toK_o]; show K'.2.2.2 27 j = 4 ∨ K'.2.2.2 27 j ≤ 2 * c2; omega
  · rw [toK_27, toK_28]
    by_cases e : i = pos
    · rw [if_pos e, if_pos e]
      exact ⟨p, hp, rfl, upT_s⟩
    · have hi2 := hc3.2.2 i hi e
      rw [if_neg e, if_neg e, (h7 i hi2).1, (h7 i hi2).2]
      obtain ⟨q, q1, q2, q3⟩ := s6 i hi2
      refine ⟨q, q1, q2, ?_⟩
      rw [upT_n (fun z => ne i hi2 e (by rw [q2, z.2]))]
      exact q3
  · rw [toK_27, toK_27] at h
    by_cases e : i = pos
    · by_cases e' : i' = pos
      · omega
      · have hi2 := hc3.2.2 i' hi' e'
        rw [if_pos e, if_neg e', (h7 i' hi2).1] at h
        exact absurd h.symm (ne i' hi2 e')
    · have hi3 := hc3.2.2 i hi e
      by_cases e' : i' = pos
      · rw [if_neg e, if_pos e', (h7 i hi3).1] at h
        exact absurd h (ne i hi3 e)
      · have hi2 := hc3.2.2 i' hi' e'
        rw [if_neg e, if_neg e', (h7 i hi3).1, (h7 i' hi2).1] at h
        exact s7 i i' hi3 hi2 h
  · by_cases e : p' = p
    · exact ⟨pos, hc3.1, by rw [toK_27, if_pos rfl, e]⟩
    · rw [upT_n (fun z => e z.2)] at h
      obtain ⟨i, h1, h2⟩ := s8 p' h
      refine ⟨i, by omega, ?_⟩
      rw [toK_27]
      by_cases e2 : i = pos
      · rw [if_pos e2, ← h2, e2, hit (by omega)]
      · rw [if_neg e2, (h7 i h1).1, h2]
theorem StT.oth {T' : Nat → Nat → Option Int32} (hS : StT T K j k cnt) (h6 : K'.1 26 j = K.1 26 j) (h7 : K'.1 27 j = K.1 27 j) (h8 : K'.1 28 j = K.1 28 j) (l7 : K'.2.2.2 27 j = K.2.2.2 27 j) (l8 : K'.2.2.2 28 j = K.2.2.2 28 j) (hT : T' k = T k) : StT T' K' j k cnt := by
  unfold StT
  rw [h6, h7, h8, l7, l8, hT]
  exact hS
/-- the class's side of what is told -/
theorem x_tell (hC : Cf mb ni A W K M σ) (hF : Fr σ sz) (hj : j < 12) (hS : StT T K j k cnt) (hc : cnt ≤ 511) (hp : p < 1000000) (hN : 1000 ≤ N) : ∃ A' W' K' τ y, f_X8_tell N σ sz (A 26 j) (iI (p : Nat)) v = some (iI ((if T k p = none then cnt + 1 else cnt : Nat) : Int), τ, y) ∧ Cf mb ni A' W' K' M τ ∧ VK σ τ ∧ TK j A A' K K' ∧ StT (upT T k p v) K' j k (if T k p = none then cnt + 1 else cnt) := by
  obtain ⟨pos, hP⟩ := Pos.ex (K.1 27 j) (iI (p : Nat)) cnt
  have hS0 := hS
  obtain ⟨s1, s2, s3, s4, s5, s6, s7, s8⟩ := hS0
  have hpl := x_placeOf (σ := σ) (N := N) hC.1 hj s1 s2 (by omega) hP hN
  have g0 := xR_26_0 (K := K) (σ := σ) hC.1 hj
  have n0 := xN_27 (K := K) (σ := σ) hC.1 hj
  have o0 := xO_26 (K := K) (σ := σ) hC.1 hj
  rw [hC.eqk] at hpl g0 n0 o0
  have p1 := hP.1
  have lt : iI (pos : Nat) < iI (K.2.2.2 27 j : Nat) ↔ pos < K.2.2.2 27 j := jI_lt (by omega) (by omega)
  by_cases h : pos < K.2.2.2 27 j
  · obtain ⟨u1, u2⟩ := StT.up (v := v) (K' := K) hS hp hP rfl (fun i _ => ⟨rfl, rfl⟩) s3 (Or.inl ⟨rfl, h⟩)
    have t19 := x_tell19 (σ := σ) (sz := sz) (N := N) (p := p) (v := v) hC.1 hj s1 p1 h (by omega) (by omega)
    rw [hC.eqk] at t19
    have e : (if T k p = none then cnt + 1 else cnt) = if pos = cnt then cnt + 1 else cnt := by
      by_cases z : pos = cnt
      · rw [if_pos z, if_pos (u2.mpr z)]
      · rw [if_neg z, if_neg (fun w => z (u2.mp w))]
    rw [e]
    refine ⟨A, W, toK K j pos p cnt v, ovk A W (toK K j pos p cnt v) σ, sz, ?_, hC.cls, fun p u s hv => hC.vcls hv, ⟨rfl, rfl, rfl, fun g j' z => ⟨toK_1 z, rfl⟩, rfl, rfl⟩, u1⟩
    unfold f_X8_tell
    rw [o0, Option.bind_some, hpl, Option.bind_some, g0, Option.bind_some, n0, Option.bind_some, iI_nat, if_pos (lt.mpr h)]
    exact t19
  · have hcl : pos = cnt ∧ cnt = K.2.2.2 27 j := ⟨by omega, by omega⟩
    obtain ⟨A1, W1, K1, τ, m1, m2, m3, ⟨m4, m5, m6, m7, m8, m9⟩, m10, m11, m12, m13⟩ := x_makeRoom (len := cnt) hC hF hj hcl.2.symm (by omega) (by omega) (by omega)
    obtain ⟨u1, u2⟩ := StT.up (v := v) (K' := K1) hS hp hP m12 m13 (by omega) (Or.inr ⟨hcl.1, hcl.2, m10⟩)
    have t19 := x_tell19 (σ := τ) (sz := sz + 2) (N := N) (p := p) (v := v) (pos := pos) (cnt := cnt) m2.1 hj (by rw [m12]; exact s1) p1 (by omega) (by omega) (by omega)
    rw [m2.eqk, m6] at t19
    have e : (if T k p = none then cnt + 1 else cnt) = if pos = cnt then cnt + 1 else cnt := by
      rw [if_pos hcl.1, if_pos (u2.mpr hcl.1)]
    rw [e]
    refine ⟨A1, W1, toK K1 j pos p cnt v, ovk A1 W1 (toK K1 j pos p cnt v) τ, sz + 2, ?_, m2.cls, m3.tr (fun p u s hv => m2.vcls hv), ⟨m4, m5, m6, fun g j' z => ⟨(toK_1 z).trans (m7 g j' z).1, (m7 g j' z).2⟩, m8, m9⟩, u1⟩
    unfold f_X8_tell
    rw [o0, Option.bind_some, hpl, Option.bind_some, g0, Option.bind_some, n0, Option.bind_some, iI_nat, if_neg (fun z => h (lt.mp z)), m1]
    exact t19
/-- the reference's row of what is told, with one more -/
theorem MtT.up {at_ row many many' : Nat → Int32} {pos : Nat} (hT : MtT T at_ row many n) (hn : n ≤ 512) (hk : k < 6) (hp : p < 1000000) (hP : Pos at_ (iI ((1000000 * k + p : Nat) : Int)) n pos) : MtT (upT T k p v) (fun i => if i = pos then iI ((1000000 * k + p : Nat) : Int) else at_ i) (fun i => if i = pos then v else row i) many' (if pos = n then n + 1 else n) ∧ (T k p = none ↔ pos = n) := by
  obtain ⟨t1, t2, t3⟩ := hT
  obtain ⟨p1, p2, p3⟩ := hP
  have hit : pos < n → at_ pos = iI ((1000000 * k + p : Nat) : Int) := fun h => by
    rcases p3 with e | e
    · omega
    · exact e
  have ne : ∀ i, i < n → i ≠ pos → at_ i ≠ iI ((1000000 * k + p : Nat) : Int) := fun i hi e h => by
    by_cases hlt : pos < n
    · exact e (t2 i pos hi hlt (h.trans (hit hlt).symm))
    · exact p2 i (by omega) h
  have inj : ∀ kk pp : Nat, kk < 6 → pp < 1000000 → iI ((1000000 * kk + pp : Nat) : Int) = iI ((1000000 * k + p : Nat) : Int) → kk = k ∧ pp = p := fun kk pp h1 h2 h => by
    have := (jI_eq (by omega) (by omega)).mp h
    omega
  have iff : T k p = none ↔ pos = n := by
    constructor
    · intro h
      by_cases e : pos = n
      · exact e
      · obtain ⟨kk, pp, q0, q1, q2, q3⟩ := t1 pos (by omega)
        rw [hit (by omega)] at q2
        obtain ⟨e1, e2⟩ := inj kk pp q0 q1 q2.symm
        rw [e1, e2, h] at q3
        cases q3
    · intro e
      by_cases h : T k p = none
      · exact h
      · obtain ⟨-, -, i, h1, h2⟩ := t3 k p h
        exact absurd h2 (ne i h1 (by omega))
  obtain ⟨c2, hc2⟩ : ∃ c2, c2 = if pos = n then n + 1 else n := ⟨_, rfl⟩
  have hc3 : pos < c2 ∧ n ≤ c2 ∧ ∀ i, i < c2 → i ≠ pos → i < n := by
    rw [hc2]
    split
    · exact ⟨by omega, by omega, fun i h1 h2 => by omega⟩
    · exact ⟨by omega, by omega, fun i h1 h2 => by omega⟩
  refine ⟨?_, iff⟩
  rw [← hc2]
  refine ⟨fun i hi => ?_, fun i i' hi hi' h => ?_, fun k' p' h => ?_⟩
  · dsimp only
    by_cases e : i = pos
    · rw [if_pos e, if_pos e]
      exact ⟨k, p, hk, hp, rfl, upT_s⟩
    · have hi2 := hc3.2.2 i hi e
      rw [if_neg e, if_neg e]
      obtain ⟨kk, pp, q0, q1, q2, q3⟩ := t1 i hi2
      refine ⟨kk, pp, q0, q1, q2, ?_⟩
      rw [upT_n (fun z => ne i hi2 e (by rw [q2, z.1, z.2]))]
      exact q3
  · dsimp only at h
    by_cases e : i = pos
    · by_cases e' : i' = pos
      · omega
      · have hi2 := hc3.2.2 i' hi' e'
        rw [if_pos e, if_neg e'] at h
        exact absurd h.symm (ne i' hi2 e')
    · have hi3 := hc3.2.2 i hi e
      by_cases e' : i' = pos
      · rw [if_neg e, if_pos e'] at h
        exact absurd h (ne i hi3 e)
      · have hi2 := hc3.2.2 i' hi' e'
        rw [if_neg e, if_neg e'] at h
        exact t2 i i' hi3 hi2 h
  · by_cases e : k' = k ∧ p' = p
    · exact ⟨by omega, by omega, pos, hc3.1, by dsimp only; rw [if_pos rfl, e.1, e.2]⟩
    · rw [upT_n e] at h
      obtain ⟨h0, h1, i, h2, h3⟩ := t3 k' p' h
      refine ⟨h0, h1, i, by omega, ?_⟩
      dsimp only
      by_cases e2 : i = pos
      · rw [if_pos e2, ← h3, e2, hit (by omega)]
      · rw [if_neg e2, h3]
theorem m_tellsT (hk : k < 6) (hp : p < 1000000) (hn : n ≤ 512) {pos : Nat} (hP : Pos (M.2.1 14) (iI ((1000000 * k + p : Nat) : Int)) n pos) (hN : 1000 ≤ N) : f_X12_tells N (ov mb M σ) (mb + 12) (mb + 13) (mb + 16) (iI (n : Nat)) (iI (k : Nat)) (iI (p : Nat)) v = some (iI ((if pos = n then n + 1 else n : Nat) : Int), ov mb (uA (uA (uA M 14 pos (iI ((1000000 * k + p : Nat) : Int))) 15 pos v) 18 k (M.2.1 18 k + if pos = n then 1 else 0)) σ) := by
  obtain ⟨p1, p2, p3⟩ := hP
  have ii : ∀ i, i ≤ n → inB (iI (i : Nat)) 65536 = true := fun i hi => inN (by omega) (by decide)
  have e1 : (1000000 : Int32) * iI (k : Nat) = iI ((1000000 * k : Nat) : Int) := by rw [iI_lit 1000000, jI_mul]
  have e2 : iI ((1000000 * k : Nat) : Int) + iI (p : Nat) = iI ((1000000 * k + p : Nat) : Int) := jI_add _ _
  obtain ⟨c, hc⟩ : ∃ c, c = iI ((1000000 * k + p : Nat) : Int) := ⟨_, rfl⟩
  rw [← hc] at p2 p3 ⊢
  have fin : b_X12_tells_35 N (ov mb M σ) (mb + 12) (mb + 13) (mb + 16) (iI (n : Nat)) (iI (k : Nat)) v c (iI (pos : Nat)) = some (iI ((if pos = n then n + 1 else n : Nat) : Int), ov mb (uA (uA (uA M 14 pos c) 15 pos v) 18 k (M.2.1 18 k + if pos = n then 1 else 0)) σ) := by
    have k6 : inB (iI (k : Nat)) 6 = true := inN hk (by decide)
    have ek : iI (pos : Nat) = iI (n : Nat) ↔ pos = n := jI_eq (by omega) (by omega)
    have em : (uA (uA M 14 pos c) 15 pos v).2.1 18 k = M.2.1 18 k := by
      rw [uA_v, if_neg (by omega), uA_v, if_neg (by omega)]
    unfold b_X12_tells_35
    rw [oS_14, ii pos p1, if_pos rfl, clN (by omega), Option.bind_some, oS_15, ii pos p1, if_pos rfl, clN (by omega), Option.bind_some, oA_18, k6, if_pos rfl, clN (by omega), Option.bind_some, em]
    by_cases e : pos = n
    · rw [if_pos (ek.mpr e), if_pos e, if_pos e]
      unfold b_X12_tells_63
      rw [oS_18, k6, if_pos rfl, clN (by omega), Option.bind_some, if_pos (ek.mpr e), jI_s]
    · rw [if_neg (fun z => e (ek.mp z)), if_neg e, if_neg e]
      unfold b_X12_tells_63
      rw [oS_18, k6, if_pos rfl, clN (by omega), Option.bind_some, if_neg (fun z => e (ek.mp z))]
  unfold f_X12_tells
  dsimp only [lt_]
  rw [e1, e2, ← hc]
  unfold b_X12_tells_14
  refine lp_for (n := pos) (st := fun i => (ov mb M σ, mb + 12, mb + 13, mb + 16, iI (n : Nat), iI (k : Nat), v, c, iI (i : Nat))) (fun i hi KK => ?_) (fun KK => ?_) N 0 (Nat.zero_le _) (by omega)
  · dsimp only
    unfold b_X12_tells_14_body
    rw [if_neg (fun z => by rw [jI_le (by omega) (by omega)] at z; omega), oA_14, ii i (by omega), if_pos rfl, clN (by omega), Option.bind_some, if_neg (p2 i hi)]
    dsimp only [lt_]
    rw [jI_s]
  · dsimp only
    unfold b_X12_tells_14_body
    by_cases e : pos = n
    · rw [if_pos (by rw [jI_le (by omega) (by omega)]; omega)]
      exact fin
    · have p4 : M.2.1 14 pos = c := by
        rcases p3 with h | h
        · exact absurd h e
        · exact h
      rw [if_neg (fun z => by rw [jI_le (by omega) (by omega)] at z; omega), oA_14, ii pos p1, if_pos rfl, clN (by omega), Option.bind_some, if_pos p4]
      exact fin
theorem m_tellsD (hk : k < 6) (hp : p < 1000000) (hn : n ≤ 512) {pos : Nat} (hP : Pos (M.2.1 16) (iI ((1000000 * k + p : Nat) : Int)) n pos) (hN : 1000 ≤ N) : f_X12_tells N (ov mb M σ) (mb + 14) (mb + 15) (mb + 17) (iI (n : Nat)) (iI (k : Nat)) (iI (p : Nat)) v = some (iI ((if pos = n then n + 1 else n : Nat) : Int), ov mb (uA (uA (uA M 16 pos (iI ((1000000 * k + p : Nat) : Int))) 17 pos v) 19 k (M.2.1 19 k + if pos = n then 1 else 0)) σ) := by
  obtain ⟨p1, p2, p3⟩ := hP
  have ii : ∀ i, i ≤ n → inB (iI (i : Nat)) 65536 = true := fun i hi => inN (by omega) (by decide)
  have e1 : (1000000 : Int32) * iI (k : Nat) = iI ((1000000 * k : Nat) : Int) := by rw [iI_lit 1000000, jI_mul]
  have e2 : iI ((1000000 * k : Nat) : Int) + iI (p : Nat) = iI ((1000000 * k + p : Nat) : Int) := jI_add _ _
  obtain ⟨c, hc⟩ : ∃ c, c = iI ((1000000 * k + p : Nat) : Int) := ⟨_, rfl⟩
  rw [← hc] at p2 p3 ⊢
  have fin : b_X12_tells_35 N (ov mb M σ) (mb + 14) (mb + 15) (mb + 17) (iI (n : Nat)) (iI (k : Nat)) v c (iI (pos : Nat)) = some (iI ((if pos = n then n + 1 else n : Nat) : Int), ov mb (uA (uA (uA M 16 pos c) 17 pos v) 19 k (M.2.1 19 k + if pos = n then 1 else 0)) σ) := by
    have k6 : inB (iI (k : Nat)) 6 = true := inN hk (by decide)
    have ek : iI (pos : Nat) = iI (n : Nat) ↔ pos = n := jI_eq (by omega) (by omega)
    have em : (uA (uA M 16 pos c) 17 pos v).2.1 19 k = M.2.1 19 k := by
      rw [uA_v, if_neg (by omega), uA_v, if_neg (by omega)]
    unfold b_X12_tells_35
    rw [oS_16, ii pos p1, if_pos rfl, clN (by omega), Option.bind_some, oS_17, ii pos p1, if_pos rfl, clN (by omega), Option.bind_some, oA_19, k6, if_pos rfl, clN (by omega), Option.bind_some, em]
    by_cases e : pos = n
    · rw [if_pos (ek.mpr e), if_pos e, if_pos e]
      unfold b_X12_tells_63
      rw [oS_19, k6, if_pos rfl, clN (by omega), Option.bind_some, if_pos (ek.mpr e), jI_s]
    · rw [if_neg (fun z => e (ek.mp z)), if_neg e, if_neg e]
      unfold b_X12_tells_63
      rw [oS_19, k6, if_pos rfl, clN (by omega), Option.bind_some, if_neg (fun z => e (ek.mp z))]
  unfold f_X12_tells
  dsimp only [lt_]
  rw [e1, e2, ← hc]
  unfold b_X12_tells_14
  refine lp_for (n := pos) (st := fun i => (ov mb M σ, mb + 14, mb + 15, mb + 17, iI (n : Nat), iI (k : Nat), v, c, iI (i : Nat))) (fun i hi KK => ?_) (fun KK => ?_) N 0 (Nat.zero_le _) (by omega)
  · dsimp only
    unfold b_X12_tells_14_body
    rw [if_neg (fun z => by rw [jI_le (by omega) (by omega)] at z; omega), oA_16, ii i (by omega), if_pos rfl, clN (by omega), Option.bind_some, if_neg (p2 i hi)]
    dsimp only [lt_]
    rw [jI_s]
  · dsimp only
    unfold b_X12_tells_14_body
    by_cases e : pos = n
    · rw [if_pos (by rw [jI_le (by omega) (by omega)]; omega)]
      exact fin
    · have p4 : M.2.1 16 pos = c := by
        rcases p3 with h | h
        · exact absurd h e
        · exact h
      rw [if_neg (fun z => by rw [jI_le (by omega) (by omega)] at z; omega), oA_16, ii pos p1, if_pos rfl, clN (by omega), Option.bind_some, if_pos p4]
      exact fin
end TE
