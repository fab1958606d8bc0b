/-! ===== weigh, part, interest, instalment ===== -/
theorem p_weigh {xb mb ob N : Nat} : A_weigh (I0 xb mb ob) N xb mb ob := by
  intro v
  refine ag_in (fun n σ sz ni A W K M hn hA ho hC hR hF => ?_)
  subst hA
  have no : ∀ (ρ : Sto) (c : Nat) (v : Int32), c ≠ 0 → c < 100 → b_X12_weigh_31 (ov mb M ρ) mb v (iI (c : Nat)) mb = some (0, ov mb (uI M 8 (iI (c : Nat))) ρ) := by
    intro ρ c v h1 h2
    unfold b_X12_weigh_31
    rw [ov_isO, Option.bind_some, m_fails h2, decide_eq_true (by omega)]
    rfl
  obtain ⟨w, w1, w2, rfl⟩ := iI_of v
  have xw := x_rangeI (v := w) (a := 0) (b := 9999) (a' := 0) (b' := 9999) rfl rfl ⟨w1, w2⟩ ⟨by decide, by decide⟩ ⟨by decide, by decide⟩
  have mw := m_rangeI (v := w) (a := 0) (b := 9999) (a' := 0) (b' := 9999) rfl rfl ⟨w1, w2⟩ ⟨by decide, by decide⟩ ⟨by decide, by decide⟩
  have hR0 := hR
  obtain ⟨a1, a2, a3, a4, a5, a6, ⟨wc, pc, q1, q2, q3, q4, q5, q6, q7, q8, q9⟩, a8⟩ := hR0
  by_cases hw : 0 ≤ w ∧ w ≤ 9999
  case neg =>
    refine ag_no (k := 1) (y := sz) rfl ho hC hR ?_ (by decide) (by decide) (fun ρ => ⟨uI M 8 1, 0, ?_, Sd.u8, u8_v⟩)
    · simp only [f_L_weigh, f_X11_weigh, hC.xo, Option.bind_some, xw, if_neg hw, bs, b2]
      rfl
    · simp only [f_X12_weigh, Option.bind_some, mw, decide_eq_false hw]
      exact no ρ 1 _ (by decide) (by decide)
  obtain ⟨wn, rfl⟩ : ∃ wn : Nat, w = wn := ⟨w.toNat, by omega⟩
  by_cases h12 : wc = 12
  · refine ag_no (k := 2) (y := sz) rfl ho hC hR ?_ (by decide) (by decide) (fun ρ => ⟨uI M 8 2, 0, ?_, Sd.u8, u8_v⟩)
    · have key : f_X11_weigh (ovk A W K σ) (A 0 0) (iI (wn : Nat)) = some (.inl 4, ovk A W K σ) := by
        simp only [f_X11_weigh, f_X7_isFull, Option.bind_some, xw, if_pos hw, bs, xR_0_8 hC.1, xO_9 hC.1, xI_9_1 hC.1, q3]
        rw [if_neg (show ¬ iI (wc : Nat) < 12 from fun w => by rw [iI_lit 12, jI_lt (by omega) (by omega)] at w; omega)]
        rfl
      rw [hC.eqk] at key
      simp only [f_L_weigh, hC.xo, Option.bind_some, key, b2, bs]
      rfl
    · simp only [f_X12_weigh, Option.bind_some, mw, decide_eq_true hw, oI_33, q4, h12]
      exact no ρ 2 _ (by decide) (by decide)
  have hl : wc < 12 := by omega
  obtain ⟨K', hK'⟩ : ∃ K', K' = kI (kI K 10 0 wc (iI (wn : Nat))) 9 0 1 (iI ((wc + 1 : Nat) : Int)) := ⟨_, rfl⟩
  have key : f_X11_weigh (ovk A W K σ) (A 0 0) (iI (wn : Nat)) = some (.inr (iI ((wc + 1 : Nat) : Int)), ovk A W K' σ) := by
    simp only [f_X11_weigh, f_X7_isFull, f_X7_add, Option.bind_some, xw, if_pos hw, bs, xR_0_8 hC.1, xO_9 hC.1, xI_9_1 hC.1, q3, xR_9_0 hC.1, xS_10 hC.1, xP_9_1 hC.1, b2, in12 hl, cl12 hl, if_true]
    rw [if_pos (show iI (wc : Nat) < 12 by rw [iI_lit 12, jI_lt (by omega) (by omega)]; exact hl), Option.bind_some, if_pos rfl]
    rw [if_neg (show ¬ 12 ≤ iI (wc : Nat) from fun w => by rw [iI_lit 12, jI_le (by omega) (by omega)] at w; omega)]
    have q : (kI K 10 0 wc (iI (wn : Nat))).1 9 0 1 = iI (wc : Nat) := q3
    rw [Option.bind_some, q, jI_s, ← hK']
    have q2 : K'.1 9 0 1 = iI ((wc + 1 : Nat) : Int) := by rw [hK', kI_v, if_pos ⟨rfl, rfl, rfl⟩]
    rw [q2]
  rw [hC.eqk] at key
  have q4' : (uI M 8 0).1 33 = iI (wc : Nat) := by rw [uI_v, if_neg (by decide)]; exact q4
  refine ag_ok (v := (iI ((wc + 1 : Nat) : Int)).toInt64) (y := sz) rfl ho ?_ (hC.cls (K' := K')) (fun ρ => ⟨uI (uA (uI M 8 0) 30 wc (iI (wn : Nat))) 33 (iI ((wc + 1 : Nat) : Int)), iI ((wc + 1 : Nat) : Int), ?_, ?_, rfl, ?_⟩)
  · simp only [f_L_weigh, hC.xo, Option.bind_some, key, b2, bs]
  · simp only [f_X12_weigh, Option.bind_some, mw, decide_eq_true hw, oI_33, q4]
    rw [if_neg (show ¬ bI true = 0 by decide), if_neg (show ¬ iI (wc : Nat) = 12 from fun w => by rw [iI_lit 12, jI_eq (by omega) (by omega)] at w; omega)]
    unfold b_X12_weigh_31
    simp only [ov_isO, Option.bind_some, ff0, b2, if_true, oR_30, oI_33, q4', oS_30, in12 hl, cl12 hl, oP_33]
    have q : (uA (uI M 8 0) 30 wc (iI (wn : Nat))).1 33 = iI (wc : Nat) := q4'
    rw [q, jI_s]
    have q2 : (uI (uA (uI M 8 0) 30 wc (iI (wn : Nat))) 33 (iI ((wc + 1 : Nat) : Int))).1 33 = iI ((wc + 1 : Nat) : Int) := by rw [uI_v, if_pos rfl]
    rw [q2]
  · rw [uI_v, if_neg (by decide)]
    exact u8_v (M := M) (v := 0)
  · have h8 := hR.sd (Sd.u8 (v := 0))
    obtain ⟨z1, z2, z3, z4, z5, z6, z7, z8⟩ := (h8.up).vk (fun p u s h => hC.vcls (K' := K') h)
    subst hK'
    refine ⟨z1, z2, z3, z4, z5, z6, ⟨wc + 1, pc, by omega, q2, ?_, ?_, q5, ?_, fun i hi => ?_, q8, q9⟩, z8⟩
    · rw [kI_v, if_pos ⟨rfl, rfl, rfl⟩]
    · rw [uI_v, if_pos rfl]
    · rw [uI_v, if_neg (by decide)]; exact q6
    · rw [kI_v, if_neg (by simp), kI_v]
      show ∃ z : Nat, z ≤ 9999 ∧ _ ∧ (uA (uI M 8 0) 30 wc (iI (wn : Nat))).2.1 30 i = _
      rw [uA_v]
      by_cases hi2 : i = wc
      · rw [if_pos ⟨rfl, rfl, hi2⟩, if_pos ⟨rfl, hi2⟩]
        exact ⟨wn, by omega, rfl, rfl⟩
      · rw [if_neg (fun w => hi2 w.2.2), if_neg (fun w => hi2 w.2)]
        exact q7 i (by omega)
/-- a place in a row of so many -/
theorem pl_cases {v : Int32} (n : Nat) (hn : n < 1000000) : (∃ k : Nat, v = iI (k : Nat) ∧ k < n ∧ f_X12_in v.toInt64 0 (Int32.toInt64 (iI (n : Nat) - 1)) = some 1 ∧ ¬ v < 0 ∧ v < iI (n : Nat)) ∨ (f_X12_in v.toInt64 0 (Int32.toInt64 (iI (n : Nat) - 1)) = some 0 ∧ (v < 0 ∨ ¬ v < 0 ∧ ¬ v < iI (n : Nat))) := by
  obtain ⟨k, k1, k2, rfl⟩ := iI_of v
  have e : Int32.toInt64 (iI (n : Nat) - 1) = iL ((n : Int) - 1) := by
    rw [iI_lit 1, iI_sub, iI_iL ⟨by omega, by omega⟩]
    rfl
  have m := m_rangeI (v := k) (a := 0) (b := (n : Int) - 1) (a' := 0) rfl rfl ⟨k1, k2⟩ ⟨by decide, by decide⟩ ⟨by omega, by omega⟩
  have l0 : iI k < 0 ↔ k < 0 := by rw [show (0 : Int32) = iI 0 from rfl, iI_lt ⟨k1, k2⟩ ⟨by decide, by decide⟩]
  have ln : iI k < iI (n : Nat) ↔ k < (n : Int) := iI_lt ⟨k1, k2⟩ ⟨by omega, by omega⟩
  rw [e, m, l0, ln]
  by_cases h : 0 ≤ k ∧ k ≤ (n : Int) - 1
  · obtain ⟨kn, rfl⟩ : ∃ kn : Nat, k = kn := ⟨k.toNat, by omega⟩
    refine Or.inl ⟨kn, rfl, by omega, ?_, by omega, by omega⟩
    rw [decide_eq_true h]; rfl
  · refine Or.inr ⟨?_, by omega⟩
    rw [decide_eq_false h]; rfl
theorem p_part {xb mb ob N : Nat} : A_part (I0 xb mb ob) N xb mb ob := by
  intro v
  refine ag_in (fun n σ sz ni A W K M hn hA ho hC hR hF => ?_)
  subst hA
  have hR0 := hR
  obtain ⟨a1, a2, a3, a4, a5, a6, ⟨wc, pc, q1, q2, q3, q4, q5, q6, q7, q8, q9⟩, a8⟩ := hR0
  rcases pl_cases (v := v) pc (by omega) with ⟨k, rfl, hk, m1, l0, ln⟩ | ⟨m1, hv⟩
  · have hk12 : k < 12 := by omega
    have key : f_X11_part (ovk A W K σ) (A 0 0) (iI (k : Nat)) = some (.inr (K.2.1 11 0 k)) := by
      simp only [f_X11_part, if_neg l0, xR_0_8 hC.1, xI_9_3 hC.1, q5, if_pos ln, xR_9_2 hC.1, xA_11 hC.1, in12 hk12, cl12 hk12, if_true, Option.bind_some]
    rw [hC.eqk] at key
    refine ag_ok (v := K.2.1 11 0 k) (y := sz) rfl ho ?_ hC (fun ρ => ⟨uI M 8 0, K.2.1 11 0 k, ?_, u8_v, rfl, (hR.sd Sd.u8).up⟩)
    · simp only [f_L_part, hC.xo, Option.bind_some, key, bs]
    · have e : M.2.2 31 k = K.2.1 11 0 k := (q8 k hk).symm
      have e' : (uI M 8 0).2.2 31 k = K.2.1 11 0 k := e
      simp only [f_X12_part_, oI_34, q6, m1, Option.bind_some]
      rw [if_neg (show ¬ (1 : Int32) = 0 by decide)]
      unfold b_X12_part__22
      simp only [ov_isO, Option.bind_some, ff0, b2, if_true, oR_31, oA_31, in12 hk12, cl12 hk12, e']
  · refine ag_no (k := 1) (y := sz) rfl ho hC hR ?_ (by decide) (by decide) (fun ρ => ⟨uI M 8 1, 0, ?_, Sd.u8, u8_v⟩)
    · have key : f_X11_part (ovk A W K σ) (A 0 0) v = some (.inl 2) := by
        unfold f_X11_part
        rcases hv with h | ⟨h, h'⟩
        · rw [if_pos h]
        · simp only [if_neg h, xR_0_8 hC.1, xI_9_3 hC.1, q5, if_neg h', Option.bind_some]
      rw [hC.eqk] at key
      simp only [f_L_part, hC.xo, Option.bind_some, key, bs]
      rfl
    · simp only [f_X12_part_, oI_34, q6, m1, Option.bind_some]
      rw [if_pos trivial]
      unfold b_X12_part__22
      simp only [ov_isO, Option.bind_some, ff1, b2]
      rfl
def isL (a : Int32) : Bool := decide (a = 105 ∨ a = 112 ∨ a = 111 ∨ a = 115)
theorem p_instalment {xb mb ob N : Nat} : A_instalment (I0 xb mb ob) N xb mb ob := by
  intro v a
  refine ag_in (fun n σ sz ni A W K M hn hA ho hC hR hF => ?_)
  subst hA
  have hR0 := hR
  obtain ⟨a1, a2, a3, a4, a5, a6, a7, ⟨c, q1, q2, q3, q4, q5, q6⟩, a9⟩ := hR0
  have jM : ∀ ρ, f_X12_instalment (ov mb M ρ) mb v a = b_X12_instalment_29 (ov mb M ρ) mb v a (bI (isL a)) := by
    intro ρ
    unfold f_X12_instalment b_X12_instalment_24 isL
    by_cases c1 : a = 105
    · rw [if_pos c1, decide_eq_true (Or.inl c1)]; rfl
    rw [if_neg c1]
    by_cases c2 : a = 112
    · rw [if_pos c2, decide_eq_true (by simp [c2])]; rfl
    rw [if_neg c2]
    by_cases c3 : a = 111
    · rw [if_pos c3, decide_eq_true (by simp [c3])]; rfl
    rw [if_neg c3]
    by_cases c4 : a = 115
    · rw [if_pos c4, decide_eq_true (by simp [c4])]; rfl
    rw [if_neg c4, decide_eq_false (by simp [c1, c2, c3, c4])]; rfl
  have jX : ∀ σ, f_X11_instalment σ (A 0 0) v a = if isL a = true then b_X11_instalment_35 σ (A 0 0) v a else some (.inl 1) := by
    intro σ
    unfold f_X11_instalment isL
    by_cases c1 : a = 105
    · rw [if_pos c1, if_pos (decide_eq_true (Or.inl c1))]
    rw [if_neg c1]
    by_cases c2 : a = 112
    · rw [if_pos c2, if_pos (decide_eq_true (by simp [c2]))]
    rw [if_neg c2]
    by_cases c3 : a = 111
    · rw [if_pos c3, if_pos (decide_eq_true (by simp [c3]))]
    rw [if_neg c3]
    by_cases c4 : a = 115
    · rw [if_pos c4, if_pos (decide_eq_true (by simp [c4]))]
    rw [if_neg c4, if_neg (fun w => by have := of_decide_eq_true w; simp [c1, c2, c3, c4] at this)]
  by_cases hj : isL a = true
  case neg =>
    have hj1 : isL a = false := by cases h : isL a <;> simp_all
    refine ag_no (k := 1) (y := sz) rfl ho hC hR ?_ (by decide) (by decide) (fun ρ => ⟨uI M 8 1, 0, ?_, Sd.u8, u8_v⟩)
    · simp only [f_L_instalment, hC.xo, Option.bind_some, jX, if_neg hj, bs]
      rfl
    · rw [jM, hj1]
      unfold b_X12_instalment_29
      rw [if_pos (by decide)]
      unfold b_X12_instalment_60
      simp only [ov_isO, Option.bind_some, ff1, b2]
      rfl
  rcases pl_cases (v := v) c (by omega) with ⟨k, rfl, hk, m1, l0, ln⟩ | ⟨m1, hv⟩
  · have i120 : inB (iI (k : Nat)) 120 = true := inN (by omega) (by decide)
    have k120 : (iI (k : Nat)).toNatClampNeg = k := clN (by omega)
    obtain ⟨e1, e2, e3⟩ := q4 k hk
    obtain ⟨ans, hans⟩ : ∃ ans : Int64, ans = (if a = 105 then K.2.1 14 0 k else if a = 111 then K.2.1 16 0 k else if a = 112 then K.2.1 15 0 k else K.2.1 14 0 k + K.2.1 15 0 k) := ⟨_, rfl⟩
    have key : f_X11_instalment (ovk A W K σ) (A 0 0) (iI (k : Nat)) a = some (.inr ans) := by
      rw [jX, if_pos hj]
      simp only [b_X11_instalment_35, if_neg l0, xR_0_9 hC.1, xI_13_3 hC.1, q2, if_pos ln, xR_13_0 hC.1, xR_13_1 hC.1, xR_13_2 hC.1, xA_14 hC.1, xA_15 hC.1, xA_16 hC.1, i120, k120, if_true, Option.bind_some]
      rw [hans]
      by_cases c1 : a = 105
      · rw [if_pos c1, if_pos c1]
      rw [if_neg c1, if_neg c1]
      by_cases c2 : a = 111
      · rw [if_pos c2, if_pos c2]
      rw [if_neg c2, if_neg c2]
      by_cases c3 : a = 112
      · rw [if_pos c3, if_pos c3]
      · rw [if_neg c3, if_neg c3]
    rw [hC.eqk] at key
    refine ag_ok (v := ans) (y := sz) rfl ho ?_ hC (fun ρ => ⟨uI M 8 0, ans, ?_, u8_v, rfl, (hR.sd Sd.u8).up⟩)
    · simp only [f_L_instalment, hC.xo, Option.bind_some, key, bs]
    · rw [jM, hj]
      unfold b_X12_instalment_29
      rw [if_neg (by decide)]
      simp only [oI_41, q3, m1, Option.bind_some]
      rw [if_neg (show ¬ (1 : Int32) = 0 by decide)]
      unfold b_X12_instalment_60
      have f1 : (uI M 8 0).2.2 35 k = K.2.1 14 0 k := e1.symm
      have f2 : (uI M 8 0).2.2 36 k = K.2.1 15 0 k := e2.symm
      have f3 : (uI M 8 0).2.2 37 k = K.2.1 16 0 k := e3.symm
      simp only [ov_isO, Option.bind_some, ff0, b2, if_true, oR_35, oR_36, oR_37, oA_35, oA_36, oA_37, i120, k120, f1, f2, f3]
      rw [hans]
      by_cases c1 : a = 105
      · rw [if_pos c1, if_pos c1]
      rw [if_neg c1, if_neg c1]
      by_cases c3 : a = 112
      · have c2 : ¬ a = 111 := by rw [c3]; decide
        rw [if_pos c3, if_neg c2, if_pos c3]
      rw [if_neg c3, if_neg c3]
      by_cases c2 : a = 111
      · rw [if_pos c2, if_pos c2]
      · rw [if_neg c2, if_neg c2]
  · refine ag_no (k := 2) (y := sz) rfl ho hC hR ?_ (by decide) (by decide) (fun ρ => ⟨uI M 8 2, 0, ?_, Sd.u8, u8_v⟩)
    · have key : f_X11_instalment (ovk A W K σ) (A 0 0) v a = some (.inl 2) := by
        rw [jX, if_pos hj]
        unfold b_X11_instalment_35
        rcases hv with h | ⟨h, h'⟩
        · rw [if_pos h]
        · simp only [if_neg h, xR_0_9 hC.1, xI_13_3 hC.1, q2, if_neg h', Option.bind_some]
      rw [hC.eqk] at key
      simp only [f_L_instalment, hC.xo, Option.bind_some, key, bs]
      rfl
    · rw [jM, hj]
      unfold b_X12_instalment_29
      rw [if_neg (by decide)]
      simp only [oI_41, q3, m1, Option.bind_some]
      rw [if_pos trivial]
      unfold b_X12_instalment_60
      simp only [ov_isO, Option.bind_some, ff2, b2]
      rfl
def isY (a : Int32) : Bool := decide (a = 360 ∨ a = 365 ∨ a = 366)
/-- a number told by an int, in a range -/
theorem ra_i {v : Int32} (a b : Nat) (ha : a ≤ 1000000) (hb : b ≤ 10000000) {a' b' : Int64} (ha' : a' = iL (a : Nat)) (hb' : b' = iL (b : Nat)) : (f_X11_checkRange v.toInt64 a' b' = some (.inl 1) ∧ f_X12_in v.toInt64 a' b' = some 0) ∨ ∃ x : Nat, v = iI (x : Nat) ∧ a ≤ x ∧ x ≤ b ∧ f_X11_checkRange v.toInt64 a' b' = some (.inr ()) ∧ f_X12_in v.toInt64 a' b' = some 1 := by
  obtain ⟨k, k1, k2, rfl⟩ := iI_of v
  rw [x_rangeI (v := k) ha' hb' ⟨k1, k2⟩ ⟨by omega, by omega⟩ ⟨by omega, by omega⟩, m_rangeI (v := k) ha' hb' ⟨k1, k2⟩ ⟨by omega, by omega⟩ ⟨by omega, by omega⟩]
  by_cases h : (a : Int) ≤ k ∧ k ≤ (b : Int)
  · obtain ⟨x, rfl⟩ : ∃ x : Nat, k = x := ⟨k.toNat, by omega⟩
    refine Or.inr ⟨x, rfl, by omega, by omega, ?_, ?_⟩
    · rw [if_pos h]
    · rw [decide_eq_true h]; rfl
  · refine Or.inl ⟨?_, ?_⟩
    · rw [if_neg h]
    · rw [decide_eq_false h]; rfl
theorem p_interest {xb mb ob N : Nat} (hN : 1000 ≤ N) : A_interest (I0 xb mb ob) N xb mb ob := by
  intro v1 v3 v4 v5 m
  refine ag_in (fun n σ sz ni A W K M hn hA ho hC hR hF => ?_)
  subst hA
  have bb2 : ∀ {α β γ : Type} (x : α) (y : β) (f : α → β → Option γ), b2 (some (x, y)) f = f x y := fun _ _ _ => rfl
  have no : ∀ (ρ : Sto) (v1 : Int64) (v3 v4 v5 : Int32), b_X12_interest_86 N (ov mb M ρ) mb v1 v3 v4 v5 m 1 mb = some (0, ov mb (uI M 8 1) ρ) := by
    intro ρ v1 v3 v4 v5
    unfold b_X12_interest_86
    rw [ov_isO, Option.bind_some, ff1]
    rfl
  have jM : ∀ ρ v1 v3 v4, f_X12_interest N (ov mb M ρ) mb v1 v3 v4 v5 m = b_X12_interest_29 N (ov mb M ρ) mb v1 v3 v4 v5 m (bI (isY v5)) := by
    intro ρ v1 v3 v4
    unfold f_X12_interest b_X12_interest_24 isY
    by_cases c1 : v5 = 360
    · rw [if_pos c1, decide_eq_true (Or.inl c1)]; rfl
    rw [if_neg c1]
    by_cases c2 : v5 = 365
    · rw [if_pos c2, decide_eq_true (by simp [c2])]; rfl
    rw [if_neg c2]
    by_cases c3 : v5 = 366
    · rw [if_pos c3, decide_eq_true (by simp [c3])]; rfl
    rw [if_neg c3, decide_eq_false (by simp [c1, c2, c3])]; rfl
  have jX : ∀ v1 v3 v4, f_X11_checkRange v1 0 1000000000000 = some (.inr ()) → f_X11_checkRange (Int32.toInt64 v3) 0 9999 = some (.inr ()) → f_X11_checkRange (Int32.toInt64 v4) 0 9999 = some (.inr ()) → f_X11_interest (A 0 0) v1 v3 v4 v5 m = if isY v5 = true then b_X11_interest_62 v1 v3 v4 v5 m else some (.inl 1) := by
    intro v1 v3 v4 h1 h2 h3
    unfold f_X11_interest isY
    simp only [h1, h2, h3, Option.bind_some, bs]
    by_cases c1 : v5 = 360
    · rw [if_pos c1, if_pos (decide_eq_true (Or.inl c1))]
    rw [if_neg c1]
    by_cases c2 : v5 = 365
    · rw [if_pos c2, if_pos (decide_eq_true (by simp [c2]))]
    rw [if_neg c2]
    by_cases c3 : v5 = 366
    · rw [if_pos c3, if_pos (decide_eq_true (by simp [c3]))]
    rw [if_neg c3, if_neg (fun w => by have := of_decide_eq_true w; simp [c1, c2, c3] at this)]
  rcases mo_cases (v := v1) with ⟨m1, m2⟩ | ⟨x, rfl, hx, m1, m2⟩
  · refine ag_no (k := 1) (y := sz) rfl ho hC hR ?_ (by decide) (by decide) (fun ρ => ⟨uI M 8 1, 0, ?_, Sd.u8, u8_v⟩)
    · simp only [f_L_interest, f_X11_interest, hC.xo, Option.bind_some, m1, bs]
      rfl
    · simp only [jM, b_X12_interest_29, m2, Option.bind_some, if_true]
      exact no ρ _ _ _ _
  rcases ra_i (v := v3) 0 9999 (by decide) (by decide) (a' := 0) (b' := 9999) rfl rfl with ⟨p1, p2⟩ | ⟨pt, rfl, -, hp, p1, p2⟩
  · refine ag_no (k := 1) (y := sz) rfl ho hC hR ?_ (by decide) (by decide) (fun ρ => ⟨uI M 8 1, 0, ?_, Sd.u8, u8_v⟩)
    · simp only [f_L_interest, f_X11_interest, hC.xo, Option.bind_some, m1, p1, bs]
      rfl
    · simp only [jM, b_X12_interest_29, m2, p2, Option.bind_some, if_true]
      exact no ρ _ _ _ _
  rcases ra_i (v := v4) 0 9999 (by decide) (by decide) (a' := 0) (b' := 9999) rfl rfl with ⟨d1, d2⟩ | ⟨dy, rfl, -, hd, d1, d2⟩
  · refine ag_no (k := 1) (y := sz) rfl ho hC hR ?_ (by decide) (by decide) (fun ρ => ⟨uI M 8 1, 0, ?_, Sd.u8, u8_v⟩)
    · simp only [f_L_interest, f_X11_interest, hC.xo, Option.bind_some, m1, p1, d1, bs]
      rfl
    · simp only [jM, b_X12_interest_29, m2, p2, d2, Option.bind_some, if_true]
      exact no ρ _ _ _ _
  by_cases hj : isY v5 = true
  case neg =>
    have hj1 : isY v5 = false := by cases h : isY v5 <;> simp_all
    refine ag_no (k := 1) (y := sz) rfl ho hC hR ?_ (by decide) (by decide) (fun ρ => ⟨uI M 8 1, 0, ?_, Sd.u8, u8_v⟩)
    · simp only [f_L_interest, hC.xo, Option.bind_some, jX _ _ _ m1 p1 d1, if_neg hj, bs]
      rfl
    · simp only [jM, b_X12_interest_29, m2, p2, d2, Option.bind_some, hj1]
      exact no ρ _ _ _ _
  by_cases hm0 : okM m = true
  case neg =>
    have hm1 : okM m = false := by cases h : okM m <;> simp_all
    refine ag_no (k := 1) (y := sz) rfl ho hC hR ?_ (by decide) (by decide) (fun ρ => ⟨uI M 8 1, 0, ?_, Sd.u8, u8_v⟩)
    · simp only [f_L_interest, hC.xo, Option.bind_some, jX _ _ _ m1 p1 d1, if_pos hj, b_X11_interest_62, x_checkMode, if_neg hm0, bs]
      rfl
    · simp only [jM, b_X12_interest_29, m2, p2, d2, Option.bind_some, hj, m_isMode, hm1]
      exact no ρ _ _ _ _
  obtain ⟨yr, rfl, hy⟩ : ∃ yr : Nat, v5 = iI (yr : Nat) ∧ (yr = 360 ∨ yr = 365 ∨ yr = 366) := by
    have := of_decide_eq_true hj
    rcases this with h | h | h
    · exact ⟨360, h, by decide⟩
    · exact ⟨365, h, by decide⟩
    · exact ⟨366, h, by decide⟩
  have b1 : x * pt ≤ 1000000000000 * 9999 := Nat.mul_le_mul hx hp
  have b2' : pt * dy ≤ 9999 * 9999 := Nat.mul_le_mul hp hd
  have b3' : x * pt * dy ≤ 1000000000000 * 9999 * 9999 := Nat.mul_le_mul b1 hd
  have b4 : x * pt % (10000 * yr) < 10000 * yr := Nat.mod_lt _ (by omega)
  have b5 : x * pt % (10000 * yr) * dy ≤ 3660000 * 9999 := Nat.mul_le_mul (by omega) hd
  have b6 : x * pt * dy / (10000 * yr) < 9223372036854775807 := by
    refine (Nat.div_lt_iff_lt_mul (by omega)).mpr ?_
    have : 9223372036854775807 * (10000 * 360) ≤ 9223372036854775807 * (10000 * yr) := Nat.mul_le_mul_left _ (by omega)
    omega
  have xc := x_partOf (a := x * pt) (f := dy) (d := 10000 * yr) (m := m) hm0 (by omega) (by omega) (by omega) (by omega) (by omega) (by omega)
  have cl : f_X11_interest (A 0 0) (iL (x : Nat)) (iI (pt : Nat)) (iI (dy : Nat)) (iI (yr : Nat)) m = some (rqR false m (x * pt * dy) (10000 * yr)) := by
    rw [jX _ _ _ m1 p1 d1, if_pos hj]
    unfold b_X11_interest_62
    rw [x_checkMode, if_pos hm0, Option.bind_some]
    dsimp only [bs]
    rw [iI_iL ⟨by omega, by omega⟩, iI_iL ⟨by omega, by omega⟩, jL_mul, iL_lit 10000, jL_mul, xc, Option.bind_some]
    cases rqR false m (x * pt * dy) (10000 * yr) <;> rfl
  have model : ∀ ρ, ∃ M', Sd M M' ∧ ((rqR false m (x * pt * dy) (10000 * yr) = .inl 3 ∧ M'.1 8 = 2 ∧ f_X12_interest N (ov mb M ρ) mb (iL (x : Nat)) (iI (pt : Nat)) (iI (dy : Nat)) (iI (yr : Nat)) m = some (0, ov mb M' ρ)) ∨ ∃ q : Int64, rqR false m (x * pt * dy) (10000 * yr) = .inr q ∧ M'.1 8 = 0 ∧ f_X12_interest N (ov mb M ρ) mb (iL (x : Nat)) (iI (pt : Nat)) (iI (dy : Nat)) (iI (yr : Nat)) m = some (q, ov mb M' ρ)) := by
    intro ρ
    obtain ⟨M1, f1, f2, f3⟩ := m_lets (mb := mb) (M := uI (uI M 8 0) 2 0) (σ := ρ) (r := 0) (z := (x : Nat)) (N := N) (by decide) ⟨by omega, by omega⟩ (by omega)
    obtain ⟨M2, g1, g2, g3⟩ := m_lets (mb := mb) (M := M1) (σ := ρ) (r := 5) (z := ((pt * dy : Nat) : Int)) (N := N) (by decide) ⟨by omega, by omega⟩ (by omega)
    rw [Int.natAbs_natCast] at f3 g3
    have n1 : nd x ≤ 13 := nd_le.mp (by omega)
    have n2 : nd (pt * dy) ≤ 8 := nd_le.mp (by omega)
    obtain ⟨M3, h1, h2, h3⟩ := m_times (mb := mb) (M := M2) (σ := ρ) (a := 0) (b := 5) (N := N) (by decide) (by decide) (by decide) (g2.Hv (r := 0) (by decide) f3) g3 (by omega) (by omega)
    obtain ⟨M4, k1, k2, k3⟩ := m_lets (mb := mb) (M := M3) (σ := ρ) (r := 1) (z := ((10000 * yr : Nat) : Int)) (N := N) (by decide) ⟨by omega, by omega⟩ (by omega)
    rw [Int.natAbs_natCast] at k3
    have n3 : nd (x * (pt * dy)) ≤ 21 := by have := nd_mul x (pt * dy); omega
    have n4 : nd (10000 * yr) ≤ 7 := nd_le.mp (by omega)
    have f4 : M4.1 2 = 0 := by rw [k2.1, h2.1, g2.1, f2.1, uI_v, if_pos rfl]
    obtain ⟨M5, q1, q2, q3, q4⟩ := m_rounds (mb := mb) (M := M4) (σ := ρ) (neg := false) (m := m) (N := N) (k2.Hv (r := 0) (by decide) h3) k3 (by omega) (by omega) (by omega) (Or.inl f4) (by omega)
    rw [f4, ← Nat.mul_assoc] at q3
    rw [← Nat.mul_assoc] at q4
    have S5 : Sd M M5 := (Sd.u8.tr Sc.ui.sd).tr ((((f2.sc.tr g2.sc).tr h2.sc).tr k2.sc).tr q2).sd
    have e1 : f_X12_lets N (ov mb (uI (uI M 8 0) 2 0) ρ) mb 0 (iL (x : Nat)) = some ((), ov mb M1 ρ) := f1
    have e2 : f_X12_lets N (ov mb M1 ρ) mb 5 (iL ((pt * dy : Nat) : Int)) = some ((), ov mb M2 ρ) := g1
    have e3 : f_X12_times N (ov mb M2 ρ) mb 0 5 = some ((), ov mb M3 ρ) := h1
    have e4 : f_X12_lets N (ov mb M3 ρ) mb 1 (iL ((10000 * yr : Nat) : Int)) = some ((), ov mb M4 ρ) := k1
    have e5 : f_X12_rounds N (ov mb M4 ρ) mb 0 m = some ((), ov mb M5 ρ) := q1
    have h240 := q4.2.1
    have run : f_X12_interest N (ov mb M ρ) mb (iL (x : Nat)) (iI (pt : Nat)) (iI (dy : Nat)) (iI (yr : Nat)) m = (if M5.1 2 = 0 then b_X12_interest_154 N (ov mb M5 ρ) mb 0 mb else b_X12_interest_154 N (ov mb M5 ρ) mb 2 mb) := by
      rw [jM, hj]
      unfold b_X12_interest_29
      rw [m2, Option.bind_some, if_neg (by decide), p2, Option.bind_some, if_neg (by decide), d2, Option.bind_some, if_neg (by decide), if_neg (by decide), m_isMode, hm0, Option.bind_some, if_neg (by decide)]
      unfold b_X12_interest_86
      rw [ov_isO, Option.bind_some, ff0, bb2, if_pos rfl, oP_2, Option.bind_some, ov_isO, Option.bind_some, e1, bb2, ov_isO, Option.bind_some, iI_iL ⟨by omega, by omega⟩, iI_iL ⟨by omega, by omega⟩, jL_mul, e2, bb2, ov_isO, Option.bind_some, e3, bb2, ov_isO, Option.bind_some, iI_iL ⟨by omega, by omega⟩, iL_lit 10000, jL_mul, e4, bb2, ov_isO, Option.bind_some, e5, bb2, oI_2, Option.bind_some]
    unfold rqR
    by_cases h9 : x * pt * dy % (10000 * yr) ≠ 0 ∧ m = 110
    · refine ⟨uI M5 8 2, S5.tr Sd.u8, Or.inl ⟨if_pos h9, u8_v, ?_⟩⟩
      rw [run, q3, if_pos h9, if_neg (by decide)]
      unfold b_X12_interest_154
      simp only [ov_isO, Option.bind_some, ff2, b2]
      rfl
    · refine ⟨uI M5 8 0, S5.tr Sd.u8, Or.inr ⟨iL (rq false m (x * pt * dy) (10000 * yr) : Nat), if_neg h9, u8_v, ?_⟩⟩
      rw [run, q3, if_neg h9, if_pos rfl]
      unfold b_X12_interest_154
      have q5 : Hv (uI M5 8 0) 2 (rq false m (x * pt * dy) (10000 * yr)) := q4
      have v2 : f_X12_value N (ov mb (uI M5 8 0) ρ) mb 2 = some (iL (rq false m (x * pt * dy) (10000 * yr) : Nat)) := m_value_loop (a := 2) (by decide) q5 (by omega)
      simp only [ov_isO, Option.bind_some, ff0, b2, if_true, v2]
  obtain ⟨M0, -, hcase⟩ := model σ
  rcases hcase with ⟨h1, -, -⟩ | ⟨q, h1, -, -⟩
  · refine ag_ex (k := 2) (y := sz) rfl ho ?_ hC (by decide) (by decide) (fun ρ => ?_)
    · simp only [f_L_interest, hC.xo, Option.bind_some, cl, h1, bs]
      rfl
    · obtain ⟨M', g1, g2 | ⟨v, g2, -⟩⟩ := model ρ
      · exact ⟨M', 0, g2.2.2, g2.2.1, (hR.sd g1).up⟩
      · rw [h1] at g2; cases g2
  · refine ag_ok (v := q) (y := sz) rfl ho ?_ hC (fun ρ => ?_)
    · simp only [f_L_interest, hC.xo, Option.bind_some, cl, h1, bs]
    · obtain ⟨M', g1, g2 | ⟨q', g2, g3, g4⟩⟩ := model ρ
      · rw [h1] at g2; cases g2.1
      · rw [h1] at g2
        exact ⟨M', _, g4, g3, (Sum.inr.inj g2).symm, (hR.sd g1).up⟩
