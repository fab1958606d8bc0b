/-! ===== currencies ===== -/
theorem x_range {v a b : Int} {a' b' : Int64} (ha' : a' = iL a) (hb' : b' = iL b) (hv : -9223372036854775808 ≤ v ∧ v < 9223372036854775808) (ha : -9223372036854775808 ≤ a ∧ a < 9223372036854775808) (hb : -9223372036854775808 ≤ b ∧ b < 9223372036854775808) : f_X11_checkRange (iL v) a' b' = some (if a ≤ v ∧ v ≤ b then .inr () else .inl 1) := by
  subst ha'
  subst hb'
  unfold f_X11_checkRange
  by_cases h1 : v < a
  · rw [if_pos ((iL_lt hv ha).mpr h1), if_neg (by omega)]
  rw [if_neg (fun w => h1 ((iL_lt hv ha).mp w))]
  by_cases h2 : v ≤ b
  · rw [if_pos ((iL_le hv hb).mpr h2), if_pos (by omega)]
  · rw [if_neg (fun w => h2 ((iL_le hv hb).mp w)), if_neg (by omega)]
theorem x_rangeI {v a b : Int} {a' b' : Int64} (ha' : a' = iL a) (hb' : b' = iL b) (hv : -2147483648 ≤ v ∧ v < 2147483648) (ha : -2147483648 ≤ a ∧ a < 2147483648) (hb : -2147483648 ≤ b ∧ b < 2147483648) : f_X11_checkRange (iI v).toInt64 a' b' = some (if a ≤ v ∧ v ≤ b then .inr () else .inl 1) := by
  rw [iI_iL hv, x_range ha' hb' ⟨by omega, by omega⟩ ⟨by omega, by omega⟩ ⟨by omega, by omega⟩]
theorem m_rangeI {v a b : Int} {a' b' : Int64} (ha' : a' = iL a) (hb' : b' = iL b) (hv : -2147483648 ≤ v ∧ v < 2147483648) (ha : -2147483648 ≤ a ∧ a < 2147483648) (hb : -2147483648 ≤ b ∧ b < 2147483648) : f_X12_in (iI v).toInt64 a' b' = some (bI (decide (a ≤ v ∧ v ≤ b))) := by
  rw [ha', hb', m_inI hv ha hb]
theorem m_range {v a b : Int} {a' b' : Int64} (ha' : a' = iL a) (hb' : b' = iL b) (hv : -9223372036854775808 ≤ v ∧ v < 9223372036854775808) (ha : -9223372036854775808 ≤ a ∧ a < 9223372036854775808) (hb : -9223372036854775808 ≤ b ∧ b < 9223372036854775808) : f_X12_in (iL v) a' b' = some (bI (decide (a ≤ v ∧ v ≤ b))) := by
  rw [ha', hb', m_in hv ha hb]
theorem x_checkCurrency {k : Int} (hk : -2147483648 ≤ k ∧ k < 2147483648) : f_X11_checkCurrency (iI k) = some (if 0 ≤ k ∧ k ≤ 3 then .inr () else .inl 0) := by
  unfold f_X11_checkCurrency
  by_cases h1 : k < 0
  · rw [if_pos (by rw [iI_lit 0, iI_lt hk ⟨by decide, by decide⟩]; exact h1), if_neg (by omega)]
  rw [if_neg (fun w => h1 (by rw [iI_lit 0, iI_lt hk ⟨by decide, by decide⟩] at w; exact w))]
  by_cases h2 : k < 4
  · rw [if_pos (by rw [iI_lit 4, iI_lt hk ⟨by decide, by decide⟩]; exact h2), if_pos (by omega)]
  · rw [if_neg (fun w => h2 (by rw [iI_lit 4, iI_lt hk ⟨by decide, by decide⟩] at w; exact w)), if_neg (by omega)]
theorem cu_cases {v : Int32} : (f_X11_checkCurrency v = some (.inl 0) ∧ f_X12_isCurrency v = some 0) ∨ ∃ k : Nat, v = iI (k : Nat) ∧ k < 4 ∧ f_X11_checkCurrency v = some (.inr ()) ∧ f_X12_isCurrency v = some 1 := by
  obtain ⟨k, k1, k2, rfl⟩ := iI_of v
  rw [x_checkCurrency ⟨k1, k2⟩, m_isCurrency ⟨k1, k2⟩]
  by_cases c1 : 0 ≤ k ∧ k ≤ 3
  · obtain ⟨kn, rfl⟩ : ∃ kn : Nat, k = kn := ⟨k.toNat, by omega⟩
    refine Or.inr ⟨kn, rfl, by omega, ?_, ?_⟩
    · rw [if_pos c1]
    · rw [decide_eq_true c1]; rfl
  · refine Or.inl ⟨?_, ?_⟩
    · rw [if_neg c1]
    · rw [decide_eq_false c1]; rfl
theorem okM_c {m : Int32} (h : okM m = true) : nC m = m ∧ okC m = true := by
  have h := of_decide_eq_true h
  rcases h with rfl | rfl | rfl | rfl | rfl | rfl | rfl | rfl <;> decide
theorem in4 {k : Nat} (hk : k < 4) : inB (iI (k : Nat)) 4 = true := inN hk (by decide)
theorem cl4 {k : Nat} (hk : k < 4) : (iI (k : Nat)).toNatClampNeg = k := clN (by omega)
theorem rk_4 {A : AM} {r : Nat → Option Nat} {c : Nat} (hc : c < 4) : rk A r 4 c = some (A 25 c) := by
  show (if c < 4 then some (A 25 c) else none) = _
  rw [if_pos hc]
theorem p_setCurrency {xb mb ob N : Nat} : A_setCurrency (I0 xb mb ob) N xb mb ob := by
  intro v1 v2 m v4
  refine ag_in (fun n σ sz ni A W K M hn hA ho hC hR hF => ?_)
  subst hA
  have no : ∀ (ρ : Sto) (c : Nat) (v1 v2 v3 v4 : Int32), c ≠ 0 → c < 100 → b_X12_setCurrency_49 (ov mb M ρ) mb v1 v2 v3 v4 (iI (c : Nat)) mb = some (0, ov mb (uI M 8 (iI (c : Nat))) ρ) := by
    intro ρ c v1 v2 v3 v4 h1 h2
    unfold b_X12_setCurrency_49
    rw [ov_isO, Option.bind_some, m_fails h2, decide_eq_true (by omega)]
    rfl
  have n1 := fun ρ v1 v2 v3 v4 => no ρ 1 v1 v2 v3 v4 (by decide) (by decide)
  have n2 := fun ρ v1 v2 v3 v4 => no ρ 2 v1 v2 v3 v4 (by decide) (by decide)
  rcases cu_cases (v := v1) with ⟨c1, c2⟩ | ⟨c, rfl, hc, c1, c2⟩
  · refine ag_no (k := 1) (y := sz) rfl ho hC hR ?_ (by decide) (by decide) (fun ρ => ⟨uI M 8 1, 0, ?_, Sd.u8, u8_v⟩)
    · simp only [f_L_setCurrency, f_X11_setCurrency, hC.xo, Option.bind_some, c1, bs, b2]
      rfl
    · simp only [f_X12_setCurrency, Option.bind_some, c2, if_true]
      exact n1 ρ _ _ _ _
  obtain ⟨d, d1, d2, rfl⟩ := iI_of v2
  have xd := x_rangeI (v := d) (a := 0) (b := 3) (a' := 0) (b' := 3) rfl rfl ⟨d1, d2⟩ ⟨by decide, by decide⟩ ⟨by decide, by decide⟩
  have md := m_rangeI (v := d) (a := 0) (b := 3) (a' := 0) (b' := 3) rfl rfl ⟨d1, d2⟩ ⟨by decide, by decide⟩ ⟨by decide, by decide⟩
  by_cases hd : 0 ≤ d ∧ d ≤ 3
  case neg =>
    refine ag_no (k := 2) (y := sz) rfl ho hC hR ?_ (by decide) (by decide) (fun ρ => ⟨uI M 8 2, 0, ?_, Sd.u8, u8_v⟩)
    · simp only [f_L_setCurrency, f_X11_setCurrency, hC.xo, Option.bind_some, c1, xd, if_neg hd, bs, b2]
      rfl
    · simp only [f_X12_setCurrency, Option.bind_some, c2, md, decide_eq_false hd]
      exact n2 ρ _ _ _ _
  by_cases hm0 : okM m = true
  case neg =>
    have hm1 : okM m = false := by cases h : okM m <;> simp_all
    refine ag_no (k := 2) (y := sz) rfl ho hC hR ?_ (by decide) (by decide) (fun ρ => ⟨uI M 8 2, 0, ?_, Sd.u8, u8_v⟩)
    · simp only [f_L_setCurrency, f_X11_setCurrency, hC.xo, Option.bind_some, c1, xd, if_pos hd, x_checkMode, if_neg hm0, bs, b2]
      rfl
    · simp only [f_X12_setCurrency, Option.bind_some, c2, md, decide_eq_true hd, m_isMode, hm1]
      exact n2 ρ _ _ _ _
  obtain ⟨e, e1, e2, rfl⟩ := iI_of v4
  have xe := x_rangeI (v := e) (a := 1) (b := 100) (a' := 1) (b' := 100) rfl rfl ⟨e1, e2⟩ ⟨by decide, by decide⟩ ⟨by decide, by decide⟩
  have me := m_rangeI (v := e) (a := 1) (b := 100) (a' := 1) (b' := 100) rfl rfl ⟨e1, e2⟩ ⟨by decide, by decide⟩ ⟨by decide, by decide⟩
  by_cases he : 1 ≤ e ∧ e ≤ 100
  case neg =>
    refine ag_no (k := 2) (y := sz) rfl ho hC hR ?_ (by decide) (by decide) (fun ρ => ⟨uI M 8 2, 0, ?_, Sd.u8, u8_v⟩)
    · simp only [f_L_setCurrency, f_X11_setCurrency, hC.xo, Option.bind_some, c1, xd, if_pos hd, x_checkMode, if_pos hm0, xe, if_neg he, bs, b2]
      rfl
    · simp only [f_X12_setCurrency, Option.bind_some, c2, md, decide_eq_true hd, m_isMode, hm0, me, decide_eq_false he]
      exact n2 ρ _ _ _ _
  obtain ⟨dn, rfl⟩ : ∃ dn : Nat, d = dn := ⟨d.toNat, by omega⟩
  obtain ⟨en, rfl⟩ : ∃ en : Nat, e = en := ⟨e.toNat, by omega⟩
  obtain ⟨d0, co0, m0, q1, q2, q3, q4, q5, q6, q7, q8, q9, q10⟩ := hR.2.2.1 c hc
  obtain ⟨mc1, mc2⟩ := okM_c hm0
  obtain ⟨K', hK'⟩ : ∃ K', K' = kI (kI (kI K 25 c 0 (iI (dn : Nat))) 25 c 1 m) 25 c 2 (iI (en : Nat)) := ⟨_, rfl⟩
  have key : f_X11_setCurrency (ovk A W K σ) (A 0 0) (iI (c : Nat)) (iI (dn : Nat)) m (iI (en : Nat)) = some (.inr (iI (d0 : Nat)), ovk A W K' σ) := by
    simp only [f_X11_setCurrency, Option.bind_some, c1, xd, if_pos hd, x_checkMode, if_pos hm0, xe, if_pos he, bs, xR_0_2 hC.1, xA_4 hC.1, in4 hc, cl4 hc, if_true, rk_4 hc, xI_25_0 hC.1 hc, xP_25_0 hC.1 hc, xP_25_1 hC.1 hc, xP_25_2 hC.1 hc, mc2, q5, hK']
  rw [hC.eqk] at key
  refine ag_ok (v := (iI (d0 : Nat)).toInt64) (y := sz) rfl ho ?_ (hC.cls (K' := K')) (fun ρ => ⟨uA (uA (uA (uI M 8 0) 9 c (iI (dn : Nat))) 11 c m) 10 c (iI (en : Nat)), iI (d0 : Nat), ?_, ?_, rfl, ?_⟩)
  · simp only [f_L_setCurrency, hC.xo, Option.bind_some, key, b2, bs]
  · simp only [f_X12_setCurrency, Option.bind_some, c2, md, decide_eq_true hd, m_isMode, hm0, me, decide_eq_true he]
    show b_X12_setCurrency_49 (ov mb M ρ) mb (iI (c : Nat)) (iI (dn : Nat)) m (iI (en : Nat)) 0 mb = _
    unfold b_X12_setCurrency_49
    have q8' : (uI M 8 0).2.1 9 c = iI (d0 : Nat) := q8
    simp only [ov_isO, Option.bind_some, ff0, b2, if_true, oR_9, oA_9, oS_9, oR_11, oS_11, oR_10, oS_10, in4 hc, cl4 hc, q8', mc1]
  · exact u8_v (M := M) (v := 0)
  · have h8 := hR.sd (Sd.u8 (v := 0))
    obtain ⟨a, b, cc, z⟩ := (h8.up).vk (fun p u s h => hC.vcls (K' := K') h)
    subst hK'
    refine ⟨a, b, fun c' hc' => ?_, z⟩
    by_cases h : c' = c
    · subst h
      refine ⟨dn, en, m, by omega, hm0, by omega, by omega, ?_, ?_, ?_, ?_, ?_, ?_⟩
      · rw [kI_v, if_neg (by simp), kI_v, if_neg (by simp), kI_v, if_pos ⟨rfl, rfl, rfl⟩]
      · rw [kI_v, if_neg (by simp), kI_v, if_pos ⟨rfl, rfl, rfl⟩]
      · rw [kI_v, if_pos ⟨rfl, rfl, rfl⟩]
      · rw [uA_v, if_neg (by simp), uA_v, if_neg (by simp), uA_v, if_pos ⟨rfl, rfl⟩]
      · rw [uA_v, if_neg (by simp), uA_v, if_pos ⟨rfl, rfl⟩]
      · rw [uA_v, if_pos ⟨rfl, rfl⟩]
    · have nk : ∀ k', (kI (kI (kI K 25 c 0 (iI (dn : Nat))) 25 c 1 m) 25 c 2 (iI (en : Nat))).1 25 c' k' = K.1 25 c' k' := by
        intro k'
        rw [kI_v, if_neg (fun w => h w.2.1), kI_v, if_neg (fun w => h w.2.1), kI_v, if_neg (fun w => h w.2.1)]
      have nm : ∀ k', (uA (uA (uA (uI M 8 0) 9 c (iI (dn : Nat))) 11 c m) 10 c (iI (en : Nat))).2.1 k' c' = M.2.1 k' c' := by
        intro k'
        rw [uA_v, if_neg (fun w => h w.2), uA_v, if_neg (fun w => h w.2), uA_v, if_neg (fun w => h w.2)]
        rfl
      rw [nk, nk, nk, nm, nm, nm]
      exact cc c' hc'
/-! rates -/
theorem x_hasRate {mb ni : Nat} {A : AM} {W : WM} {K : KS} {M : MS} {σ : Sto} (hC : Cf mb ni A W K M σ) {c o : Nat} (hc : c < 4) (ho : o < 4) : f_X11_hasRate σ (A 0 0) (iI (c : Nat)) (iI (o : Nat)) = some (bI (K.2.2.1 5 (4 * c + o)).isSome) := by
  have key : f_X11_hasRate (ovk A W K σ) (A 0 0) (iI (c : Nat)) (iI (o : Nat)) = some (bI (K.2.2.1 5 (4 * c + o)).isSome) := by
    unfold f_X11_hasRate
    rw [xR_0_3 hC.1, Option.bind_some, iI_lit 4, jI_mul, jI_add, xA_5 hC.1, if_pos (inN (by omega) (by decide)), Option.bind_some, clN (by omega), show c * 4 + o = 4 * c + o by omega]
    show oq (K.2.2.1 5 (4 * c + o)) _ _ = _
    cases K.2.2.1 5 (4 * c + o) <;> rfl
  rw [hC.eqk] at key
  exact key
theorem p_setRate {xb mb ob N : Nat} : A_setRate (I0 xb mb ob) N xb mb ob := by
  intro v1 v2 v3
  refine ag_in (fun n σ sz ni A W K M hn hA ho hC hR hF => ?_)
  subst hA
  have no : ∀ (ρ : Sto) (c : Nat) (v1 v2 v3 : Int32), c ≠ 0 → c < 100 → b_X12_setRate_64 (ov mb M ρ) mb v1 v2 v3 (iI (c : Nat)) mb = some (0, ov mb (uI M 8 (iI (c : Nat))) ρ) := by
    intro ρ c v1 v2 v3 h1 h2
    unfold b_X12_setRate_64
    rw [ov_isO, Option.bind_some, m_fails h2, decide_eq_true (by omega)]
    rfl
  have n1 := fun ρ v1 v2 v3 => no ρ 1 v1 v2 v3 (by decide) (by decide)
  have n2 := fun ρ v1 v2 v3 => no ρ 2 v1 v2 v3 (by decide) (by decide)
  have n3 := fun ρ v1 v2 v3 => no ρ 3 v1 v2 v3 (by decide) (by decide)
  have n4 := fun ρ v1 v2 v3 => no ρ 4 v1 v2 v3 (by decide) (by decide)
  rcases cu_cases (v := v1) with ⟨c1, c2⟩ | ⟨c, rfl, hc, c1, c2⟩
  · refine ag_no (k := 1) (y := sz) rfl ho hC hR ?_ (by decide) (by decide) (fun ρ => ⟨uI M 8 1, 0, ?_, Sd.u8, u8_v⟩)
    · simp only [f_L_setRate, f_X11_setRate, hC.xo, Option.bind_some, c1, bs, b2]
      rfl
    · simp only [f_X12_setRate, Option.bind_some, c2, if_true]
      exact n1 ρ _ _ _
  rcases cu_cases (v := v2) with ⟨o1, o2⟩ | ⟨o, rfl, hoo, o1, o2⟩
  · refine ag_no (k := 1) (y := sz) rfl ho hC hR ?_ (by decide) (by decide) (fun ρ => ⟨uI M 8 1, 0, ?_, Sd.u8, u8_v⟩)
    · simp only [f_L_setRate, f_X11_setRate, hC.xo, Option.bind_some, c1, o1, bs, b2]
      rfl
    · simp only [f_X12_setRate, Option.bind_some, c2, o2, if_true]
      exact n1 ρ _ _ _
  rcases sh_cases (v := v3) hR.1 with ⟨k, rfl, hk, s1⟩ | ⟨k, rfl, hk, ha⟩
  · refine ag_no (k := 1) (y := sz) rfl ho hC hR ?_ (by decide) (by decide) (fun ρ => ⟨uI M 8 1, 0, ?_, Sd.u8, u8_v⟩)
    · simp only [f_L_setRate, f_X11_setRate, hC.xo, Option.bind_some, c1, o1, x_shN hk s1, bs, b2]
      rfl
    · simp only [f_X12_setRate, Option.bind_some, c2, o2, m_shN hk s1, if_true]
      exact n1 ρ _ _ _
  have eqv : (iI (c : Nat) = iI (o : Nat)) ↔ c = o := jI_eq (by omega) (by omega)
  by_cases hco : c = o
  · refine ag_no (k := 2) (y := sz) rfl ho hC hR ?_ (by decide) (by decide) (fun ρ => ⟨uI M 8 2, 0, ?_, Sd.u8, u8_v⟩)
    · simp only [f_L_setRate, f_X11_setRate, f_X11_checkUnlike, hC.xo, Option.bind_some, c1, o1, x_shelfOk hk, if_pos (eqv.mpr hco), bs, b2]
      rfl
    · simp only [f_X12_setRate, Option.bind_some, c2, o2, m_shY hk, if_pos (eqv.mpr hco)]
      exact n2 ρ _ _ _
  have nco : ¬ iI (c : Nat) = iI (o : Nat) := fun w => hco (eqv.mp w)
  rcases ha with ⟨e1, e2⟩ | ⟨p, u, s, e1, hv, hg, hm⟩
  · refine ag_no (k := 3) (y := sz) rfl ho hC hR ?_ (by decide) (by decide) (fun ρ => ⟨uI M 8 3, 0, ?_, Sd.u8, u8_v⟩)
    · simp only [f_L_setRate, f_X11_setRate, f_X11_checkUnlike, hC.xo, Option.bind_some, c1, o1, x_shelfOk hk, if_neg nco, x_valueOn hC hk, e1, oq, bs, b2]
      rfl
    · simp only [f_X12_setRate, Option.bind_some, c2, o2, m_shY hk, if_neg nco, oR_5, oA_5, in12 hk, cl12 hk, e2, if_true]
      exact n3 ρ _ _ _
  have ⟨r1, r2, r3, r4⟩ := hg
  have sv := sg_v u
  have lt0 : 0 < iL u ↔ 0 < u := by rw [show (0 : Int64) = iL 0 from rfl, iL_lt ⟨by decide, by decide⟩ ⟨by omega, by omega⟩]
  have ls0 : 0 < iI (sg u) ↔ 0 < u := by rw [show (0 : Int32) = iI 0 from rfl, iI_lt ⟨by decide, by decide⟩ ⟨by omega, by omega⟩]; omega
  by_cases hu : 0 < u
  case neg =>
    refine ag_no (k := 4) (y := sz) rfl ho hC hR ?_ (by decide) (by decide) (fun ρ => ⟨uI M 8 4, 0, ?_, Sd.u8, u8_v⟩)
    · simp only [f_L_setRate, f_X11_setRate, f_X11_checkUnlike, hC.xo, Option.bind_some, c1, o1, x_shelfOk hk, if_neg nco, x_valueOn hC hk, e1, oq, bs, b2, hv.io, x_sign hv hg, if_neg (fun w => hu (ls0.mp w))]
      rfl
    · simp only [f_X12_setRate, Option.bind_some, c2, o2, m_shY hk, if_neg nco, oR_5, oA_5, in12 hk, cl12 hk, hm.1, if_true, oR_3, oA_3, hm.2.1, if_neg (fun w => hu (lt0.mp w))]
      exact n4 ρ _ _ _
  have hi : 4 * c + o < 16 := by omega
  have i16 : inB (iI ((4 * c + o : Nat) : Int)) 16 = true := inN hi (by decide)
  have k16 : (iI ((4 * c + o : Nat) : Int)).toNatClampNeg = 4 * c + o := clN (by omega)
  obtain ⟨K', hK'⟩ : ∃ K', K' = kR K 5 (4 * c + o) (some p) := ⟨_, rfl⟩
  have had := hR.2.2.2.1 (4 * c + o) hi
  obtain ⟨b, hb⟩ : ∃ b, b = (K.2.2.1 5 (4 * c + o)).isSome := ⟨_, rfl⟩
  have key : f_X11_setRate σ (A 0 0) (iI (c : Nat)) (iI (o : Nat)) (iI (k : Nat)) = some (.inr (bI b), ovk A W K' σ) := by
    have q := xS_5 (K := K) (σ := σ) (i := iI ((4 * c + o : Nat) : Int)) (p := p) hC.1 (by rw [hC.eqk]; exact hv.io)
    rw [hC.eqk, if_pos i16, k16] at q
    have q2 := xR_0_3 (K := K) (σ := σ) hC.1
    rw [hC.eqk] at q2
    have e4 : iI (c : Nat) * 4 + iI (o : Nat) = iI ((4 * c + o : Nat) : Int) := by
      rw [iI_lit 4, jI_mul, jI_add, show c * 4 + o = 4 * c + o by omega]
    simp only [f_X11_setRate, f_X11_checkUnlike, hC.xo, Option.bind_some, c1, o1, x_shelfOk hk, if_neg nco, x_valueOn hC hk, e1, oq, bs, hv.io, x_sign hv hg, if_pos (ls0.mpr hu), x_hasRate hC hc hoo, q2, e4, q, okZ_b, if_true, ← hb, hK']
  have e4 : (4 : Int32) * iI (c : Nat) + iI (o : Nat) = iI ((4 * c + o : Nat) : Int) := by
    rw [iI_lit 4, jI_mul, jI_add]
  have hbr : (∃ z, M.2.2 12 (4 * c + o) = iL z ∧ -9223372036854775808 ≤ z ∧ z < 9223372036854775808 ∧ (0 < z ↔ b = true)) := by
    rcases had with ⟨a1, a2⟩ | ⟨p', u', s', a1, a2, a3, a4, a5, a6⟩
    · refine ⟨0, a2, by decide, by decide, ?_⟩
      rw [hb, a1]
      exact ⟨fun w => by omega, fun w => by cases w⟩
    · have ⟨g1, g2, g3, g4⟩ := a3
      refine ⟨u', a5, by omega, by omega, ?_⟩
      rw [hb, a1]
      exact ⟨fun _ => rfl, fun _ => a4⟩
  obtain ⟨z, z1, z2, z3, z4⟩ := hbr
  have model : ∀ ρ, f_X12_setRate (ov mb M ρ) mb (iI (c : Nat)) (iI (o : Nat)) (iI (k : Nat)) = some (bI b, ov mb (uA (uL (uI M 8 0) 12 (4 * c + o) (iL u)) 13 (4 * c + o) (iI s)) ρ) := by
    intro ρ
    simp only [f_X12_setRate, Option.bind_some, c2, o2, m_shY hk, if_neg nco, oR_5, oA_5, in12 hk, cl12 hk, hm.1, if_true, oR_3, oA_3, hm.2.1, if_pos (lt0.mpr hu)]
    show b_X12_setRate_64 (ov mb M ρ) mb (iI (c : Nat)) (iI (o : Nat)) (iI (k : Nat)) 0 mb = _
    unfold b_X12_setRate_64
    have z1' : (uI M 8 0).2.2 12 (4 * c + o) = iL z := z1
    simp only [ov_isO, Option.bind_some, ff0, b2, if_true, lt_, e4, oR_12, oA_12, i16, k16, z1']
    have e96 : ∀ b : Bool, b_X12_setRate_96 (ov mb (uI M 8 0) ρ) mb (iI (k : Nat)) (iI ((4 * c + o : Nat) : Int)) (bI b) = some (bI b, ov mb (uA (uL (uI M 8 0) 12 (4 * c + o) (iL u)) 13 (4 * c + o) (iI s)) ρ) := by
      intro b
      unfold b_X12_setRate_96
      have m8 : (uI M 8 0).2.2 3 k = iL u := hm.2.1
      have m9 : (uL (uI M 8 0) 12 (4 * c + o) (iL u)).2.1 4 k = iI s := hm.2.2
      simp only [oR_12, oR_3, oA_3, in12 hk, cl12 hk, if_true, m8, Option.bind_some, oS_12, i16, k16, oR_13, oR_4, oA_4, m9, oS_13, okZ_b]
    by_cases hz : z ≤ 0
    · have : b = false := by
        cases hb2 : b with
        | false => rfl
        | true => rw [hb2] at z4; have := z4.mpr rfl; omega
      rw [if_pos (by rw [show (0 : Int64) = iL 0 from rfl, iL_le ⟨z2, z3⟩ ⟨by decide, by decide⟩]; exact hz), this]
      exact e96 false
    · have : b = true := z4.mp (by omega)
      rw [if_neg (fun w => hz (by rw [show (0 : Int64) = iL 0 from rfl, iL_le ⟨z2, z3⟩ ⟨by decide, by decide⟩] at w; exact w)), this]
      exact e96 true
  have rel : Rel (n + 1) ni A K' (uA (uL (uI M 8 0) 12 (4 * c + o) (iL u)) 13 (4 * c + o) (iI s)) (ovk A W K' σ) := by
    have h8 := hR.sd (Sd.u8 (v := 0))
    obtain ⟨a, b', cc, rr, z⟩ := (h8.up).vk (fun p u s h => hC.vcls (K' := K') h)
    refine ⟨?_, by subst hK'; exact b', by subst hK'; exact cc, fun i hi => ?_, by subst hK'; exact z⟩
    · subst hK'
      have a1 : RV (kR K 5 (4 * c + o) (some p)) (uI M 8 0) (ovk A W (kR K 5 (4 * c + o) (some p)) σ) := a
      intro k' hk'
      rcases a1 k' hk' with h1 | ⟨p', u', s', h1, h2, h3, h4⟩
      · exact Or.inl h1
      · exact Or.inr ⟨p', u', s', h1, h2, h3, h4⟩
    · subst hK'
      by_cases h : i = 4 * c + o
      · subst h
        refine Or.inr ⟨p, u, s, ?_, hC.vcls hv, hg, hu, ?_, ?_⟩
        · rw [kR_v, if_pos ⟨rfl, rfl⟩]
        · rw [uA_l, uL_v, if_pos ⟨rfl, rfl⟩]
        · rw [uA_v, if_pos ⟨rfl, rfl⟩]
      · rw [kR_v, if_neg (fun w => h w.2), uA_l, uL_v, if_neg (fun w => h w.2), uA_v, if_neg (fun w => h w.2)]
        exact rr i hi
  cases hbb : b with
  | false =>
    refine ag_ok (v := 0) (y := sz) rfl ho ?_ (hC.cls (K' := K')) (fun ρ => ⟨uA (uL (uI M 8 0) 12 (4 * c + o) (iL u)) 13 (4 * c + o) (iI s), 0, by rw [model, hbb]; rfl, u8_v (M := M) (v := 0), rfl, rel⟩)
    simp only [f_L_setRate, hC.xo, Option.bind_some, key, b2, bs, hbb]
    rfl
  | true =>
    refine ag_ok (v := 1) (y := sz) rfl ho ?_ (hC.cls (K' := K')) (fun ρ => ⟨uA (uL (uI M 8 0) 12 (4 * c + o) (iL u)) 13 (4 * c + o) (iI s), 1, by rw [model, hbb]; rfl, u8_v (M := M) (v := 0), rfl, rel⟩)
    simp only [f_L_setRate, hC.xo, Option.bind_some, key, b2, bs, hbb]
    rfl
