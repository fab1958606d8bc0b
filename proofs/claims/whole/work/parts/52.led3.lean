/-! ===== post, shut, undo ===== -/
section LX
variable {mb ni c a n : Nat} {sh : Int} {S : Nat → Nat} {A : AM} {W : WM} {K : KS} {M : MS} {σ : Sto}
theorem x_notShut (hC : Cf mb ni A W K M σ) (h9 : K.1 17 0 9 = iI sh) (h1 : -1 ≤ sh) (h2 : sh ≤ 9999) {d : Int} (hd : -2147483648 ≤ d ∧ d < 2147483648) : f_X11_checkNotShut σ (A 0 0) (iI d) = some (if sh < d then .inr () else .inl 5) := by
  have key : f_X11_checkNotShut (ovk A W K σ) (A 0 0) (iI d) = some (if sh < d then .inr () else .inl 5) := by
    simp only [f_X11_checkNotShut, f_X3_isShut, xR_0_10 hC.1, xO_17 hC.1, xI_17_9 hC.1, Option.bind_some, h9, iI_lt (show -2147483648 ≤ sh ∧ sh < 2147483648 by omega) hd]
    by_cases h : sh < d
    · rw [if_pos h, if_pos h]; rfl
    · rw [if_neg h, if_neg h]; rfl
  rw [hC.eqk] at key
  exact key
theorem x_room (hC : Cf mb ni A W K M σ) (h4 : K.1 17 0 4 = iI (c : Nat)) (h8 : K.1 17 0 8 = iI (a : Nat)) (hc : c ≤ 200) (ha : a ≤ 220) {k : Nat} (hk : k ≤ 10) : f_X11_checkRoom σ (A 0 0) (iI (k : Nat)) = some (if c + k ≤ 200 ∧ a < 220 then .inr () else .inl 4) := by
  have key : f_X11_checkRoom (ovk A W K σ) (A 0 0) (iI (k : Nat)) = some (if c + k ≤ 200 ∧ a < 220 then .inr () else .inl 4) := by
    simp only [f_X11_checkRoom, f_X3_hasRoom, xR_0_10 hC.1, xO_17 hC.1, xI_17_4 hC.1, xI_17_8 hC.1, Option.bind_some, h4, h8, jI_add]
    by_cases h : c + k ≤ 200
    · rw [if_neg (fun w => by rw [iI_lit 200, jI_lt (by omega) (by omega)] at w; omega)]
      by_cases h' : a < 220
      · rw [if_neg (fun w => by rw [iI_lit 220, jI_le (by omega) (by omega)] at w; omega), if_pos ⟨h, h'⟩]; rfl
      · rw [if_pos (by rw [iI_lit 220, jI_le (by omega) (by omega)]; omega), if_neg (fun w => h' w.2)]; rfl
    · rw [if_pos (by rw [iI_lit 200, jI_lt (by omega) (by omega)]; omega), if_neg (fun w => h w.1)]; rfl
  rw [hC.eqk] at key
  exact key
/-- accounts -/
theorem ac_cases {v : Int32} : (f_X11_checkAccount v = some (.inl 0) ∧ f_X12_isAccount v = some 0) ∨ ∃ k : Nat, v = iI (k : Nat) ∧ k ≤ 99 ∧ f_X11_checkAccount v = some (.inr ()) ∧ f_X12_isAccount v = some 1 := by
  obtain ⟨k, k1, k2, rfl⟩ := iI_of v
  have m := m_rangeI (v := k) (a := 0) (b := 99) (a' := 0) (b' := 99) rfl rfl ⟨k1, k2⟩ ⟨by decide, by decide⟩ ⟨by decide, by decide⟩
  have l0 : iI k < 0 ↔ k < 0 := by rw [show (0 : Int32) = iI 0 from rfl, iI_lt ⟨k1, k2⟩ ⟨by decide, by decide⟩]
  have ln : iI k < 100 ↔ k < 100 := by rw [show (100 : Int32) = iI 100 from rfl, iI_lt ⟨k1, k2⟩ ⟨by decide, by decide⟩]
  unfold f_X12_isAccount
  rw [m, Option.bind_some]
  unfold f_X11_checkAccount
  by_cases h : 0 ≤ k ∧ k ≤ 99
  · obtain ⟨kn, rfl⟩ : ∃ kn : Nat, k = kn := ⟨k.toNat, by omega⟩
    refine Or.inr ⟨kn, rfl, by omega, ?_, ?_⟩
    · rw [if_neg (fun w => by have := l0.mp w; omega), if_pos (ln.mpr (by omega))]
    · rw [decide_eq_true h]; rfl
  · refine Or.inl ⟨?_, ?_⟩
    · by_cases h0 : k < 0
      · rw [if_pos (l0.mpr h0)]
      · rw [if_neg (fun w => h0 (l0.mp w)), if_neg (fun w => by have := ln.mp w; omega)]
    · rw [decide_eq_false h]; rfl
/-- an amount from 1 -/
theorem m1_cases {v : Int64} : (f_X11_checkRange v 1 1000000000000 = some (.inl 1) ∧ f_X12_in v 1 1000000000000 = some 0) ∨ (f_X11_checkRange v 1 1000000000000 = some (.inr ()) ∧ f_X12_in v 1 1000000000000 = some 1) := by
  obtain ⟨k, k1, k2, rfl⟩ := iL_of v
  rw [x_range (v := k) (a := 1) (b := 1000000000000) (a' := 1) (b' := 1000000000000) rfl rfl ⟨k1, k2⟩ ⟨by decide, by decide⟩ ⟨by decide, by decide⟩, m_range (v := k) (a := 1) (b := 1000000000000) (a' := 1) (b' := 1000000000000) rfl rfl ⟨k1, k2⟩ ⟨by decide, by decide⟩ ⟨by decide, by decide⟩]
  by_cases h : 1 ≤ k ∧ k ≤ 1000000000000
  · rw [if_pos h, decide_eq_true h]; exact Or.inr ⟨rfl, rfl⟩
  · rw [if_neg h, decide_eq_false h]; exact Or.inl ⟨rfl, rfl⟩
end LX
theorem p_post {xb mb ob N : Nat} : A_post (I0 xb mb ob) N xb mb ob := by
  intro v1 v2 v3 v4
  refine ag_in (fun n σ sz ni A W K M hn hA ho hC hR hF => ?_)
  subst hA
  have bb2 : ∀ {α β γ : Type} (x : α) (y : β) (f : α → β → Option γ), b2 (some (x, y)) f = f x y := fun _ _ _ => rfl
  obtain ⟨c, a, sh, S, hL, hle⟩ := hR.2.2.2.2.2.2.2.2
  have hL0 := hL
  obtain ⟨l1, l2, l3, l4, ⟨q1, q2, q3, q4, q5, q6⟩, l5, l6, l7, l8, l9, l10⟩ := hL
  have hni := hR.2.2.2.2.2.1.1
  have no : ∀ (ρ : Sto) (k : Nat), k ≠ 0 → k < 100 → b_X12_post_91 (ov mb M ρ) mb v1 v2 v3 v4 (iI (k : Nat)) mb = some (0, ov mb (uI M 8 (iI (k : Nat))) ρ) := by
    intro ρ k h1 h2
    unfold b_X12_post_91
    rw [ov_isO, Option.bind_some, m_fails h2, decide_eq_true (by omega)]
    rfl
  have j1 : ∃ a, f_X12_in (Int32.toInt64 v1) 0 9999 = some a := by
    rcases ra_i (v := v1) 0 9999 (by decide) (by decide) (a' := 0) (b' := 9999) rfl rfl with ⟨-, h⟩ | ⟨x, -, -, -, -, h⟩ <;> exact ⟨_, h⟩
  have j4 : ∃ a, f_X12_in v4 1 1000000000000 = some a := by
    rcases m1_cases (v := v4) with ⟨-, h⟩ | ⟨-, h⟩ <;> exact ⟨_, h⟩
  obtain ⟨r1, hr1⟩ := j1
  obtain ⟨r4, hr4⟩ := j4
  have jM : ∀ ρ, f_X12_post (ov mb M ρ) mb v1 v2 v3 v4 = b_X12_post_34 (ov mb M ρ) mb v1 v2 v3 v4 (if r1 = 0 then 0 else if r4 = 0 then 0 else if v2 = v3 then 0 else 1) := by
    intro ρ
    unfold f_X12_post b_X12_post_33
    rw [hr1, Option.bind_some, hr4, Option.bind_some]
    by_cases c1 : r1 = 0
    · rw [if_pos c1, if_pos c1]
    rw [if_neg c1, if_neg c1]
    by_cases c2 : r4 = 0
    · rw [if_pos c2, if_pos c2]
    rw [if_neg c2, if_neg c2]
    by_cases c3 : v2 = v3
    · rw [if_pos c3, if_pos c3]
    · rw [if_neg c3, if_neg c3]
  rcases ac_cases (v := v2) with ⟨p1, p2⟩ | ⟨x, rfl, hx, p1, p2⟩
  · refine ag_no (k := 1) (y := sz) rfl ho hC hR ?_ (by decide) (by decide) (fun ρ => ⟨uI M 8 1, 0, ?_, Sd.u8, u8_v⟩)
    · simp only [f_L_post, f_X11_post, hC.xo, Option.bind_some, p1, bs, b2]
      rfl
    · rw [jM]
      unfold b_X12_post_34
      rw [p2, Option.bind_some, if_pos rfl]
      exact no ρ 1 (by decide) (by decide)
  rcases ac_cases (v := v3) with ⟨o1, o2⟩ | ⟨y, rfl, hy, o1, o2⟩
  · refine ag_no (k := 1) (y := sz) rfl ho hC hR ?_ (by decide) (by decide) (fun ρ => ⟨uI M 8 1, 0, ?_, Sd.u8, u8_v⟩)
    · simp only [f_L_post, f_X11_post, hC.xo, Option.bind_some, p1, o1, bs, b2]
      rfl
    · rw [jM]
      unfold b_X12_post_34
      rw [p2, Option.bind_some, if_neg (by decide), o2, Option.bind_some, if_pos rfl]
      exact no ρ 1 (by decide) (by decide)
  have two : ∀ ρ, (r1 = 0 ∨ r4 = 0 ∨ iI (x : Nat) = iI (y : Nat)) → ∃ M' b, f_X12_post (ov mb M ρ) mb v1 (iI (x : Nat)) (iI (y : Nat)) v4 = some (b, ov mb M' ρ) ∧ Sd M M' ∧ M'.1 8 = 2 := by
    intro ρ h
    refine ⟨uI M 8 2, 0, ?_, Sd.u8, u8_v⟩
    rw [jM]
    have : (if r1 = 0 then (0 : Int32) else if r4 = 0 then 0 else if iI (x : Nat) = iI (y : Nat) then 0 else 1) = 0 := by
      rcases h with h | h | h
      · rw [if_pos h]
      · by_cases h' : r1 = 0
        · rw [if_pos h']
        · rw [if_neg h', if_pos h]
      · by_cases h' : r1 = 0
        · rw [if_pos h']
        · rw [if_neg h']
          by_cases h2 : r4 = 0
          · rw [if_pos h2]
          · rw [if_neg h2, if_pos h]
    rw [this]
    unfold b_X12_post_34
    rw [p2, Option.bind_some, if_neg (by decide), o2, Option.bind_some, if_neg (by decide), if_pos rfl]
    exact no ρ 2 (by decide) (by decide)
  rcases ra_i (v := v1) 0 9999 (by decide) (by decide) (a' := 0) (b' := 9999) rfl rfl with ⟨d1, d2⟩ | ⟨d, rfl, -, hd, d1, d2⟩
  · refine ag_no (k := 2) (y := sz) rfl ho hC hR ?_ (by decide) (by decide) (fun ρ => two ρ (Or.inl (Option.some.inj (hr1.symm.trans d2))))
    simp only [f_L_post, f_X11_post, hC.xo, Option.bind_some, p1, o1, d1, bs, b2]
    rfl
  rcases m1_cases (v := v4) with ⟨m1, m2⟩ | ⟨m1, m2⟩
  · refine ag_no (k := 2) (y := sz) rfl ho hC hR ?_ (by decide) (by decide) (fun ρ => two ρ (Or.inr (Or.inl (Option.some.inj (hr4.symm.trans m2)))))
    simp only [f_L_post, f_X11_post, hC.xo, Option.bind_some, p1, o1, d1, m1, bs, b2]
    rfl
  by_cases hxy : iI (x : Nat) = iI (y : Nat)
  · refine ag_no (k := 2) (y := sz) rfl ho hC hR ?_ (by decide) (by decide) (fun ρ => two ρ (Or.inr (Or.inr hxy)))
    simp only [f_L_post, f_X11_post, f_X11_checkUnlike, if_pos hxy, hC.xo, Option.bind_some, p1, o1, d1, m1, bs, b2]
    rfl
  have e1 : r1 = 1 := Option.some.inj (hr1.symm.trans d2)
  have e4 : r4 = 1 := Option.some.inj (hr4.symm.trans m2)
  have run : ∀ ρ, f_X12_post (ov mb M ρ) mb (iI (d : Nat)) (iI (x : Nat)) (iI (y : Nat)) v4 = if sh < d then (if c = 200 then b_X12_post_91 (ov mb M ρ) mb (iI (d : Nat)) (iI (x : Nat)) (iI (y : Nat)) v4 4 mb else b_X12_post_91 (ov mb M ρ) mb (iI (d : Nat)) (iI (x : Nat)) (iI (y : Nat)) v4 0 mb) else b_X12_post_91 (ov mb M ρ) mb (iI (d : Nat)) (iI (x : Nat)) (iI (y : Nat)) v4 3 mb := by
    intro ρ
    rw [jM, e1, e4, if_neg (by decide), if_neg (by decide), if_neg hxy]
    unfold b_X12_post_34
    rw [p2, Option.bind_some, if_neg (by decide), o2, Option.bind_some, if_neg (by decide), if_neg (by decide), oI_47, Option.bind_some, q6, oI_46, Option.bind_some, q2]
    simp only [iI_lt (show -2147483648 ≤ sh ∧ sh < 2147483648 by omega) (show -2147483648 ≤ (d : Int) ∧ (d : Int) < 2147483648 by omega)]
    rw [iI_lit 200]
    simp only [jI_eq (show c < 2147483648 by omega) (show 200 < 2147483648 by decide)]
  have ns := x_notShut hC q5 l3 l4 (d := (d : Nat)) ⟨by omega, by omega⟩
  by_cases hsh : sh < d
  case neg =>
    rw [if_neg hsh] at ns
    refine ag_no (k := 3) (y := sz) rfl ho hC hR ?_ (by decide) (by decide) (fun ρ => ⟨uI M 8 3, 0, ?_, Sd.u8, u8_v⟩)
    · simp only [f_L_post, f_X11_post, f_X11_checkUnlike, if_neg hxy, hC.xo, Option.bind_some, p1, o1, d1, m1, ns, bs, b2]
      rfl
    · rw [run, if_neg hsh]
      exact no ρ 3 (by decide) (by decide)
  rw [if_pos hsh] at ns
  have rm := x_room hC q1 q3 l1 l2 (k := 1) (by decide)
  have hbk : bkN (M.2.1 50) a ≤ 20 := by rw [l10]; exact flags_le
  by_cases h200 : c = 200
  · rw [if_neg (by omega)] at rm
    have rm' : f_X11_checkRoom σ (A 0 0) 1 = some (.inl 4) := rm
    refine ag_no (k := 4) (y := sz) rfl ho hC hR ?_ (by decide) (by decide) (fun ρ => ⟨uI M 8 4, 0, ?_, Sd.u8, u8_v⟩)
    · simp only [f_L_post, f_X11_post, f_X11_checkUnlike, if_neg hxy, hC.xo, Option.bind_some, p1, o1, d1, m1, ns, rm', bs, b2]
      rfl
    · rw [run, if_pos hsh, if_pos h200]
      exact no ρ 4 (by decide) (by decide)
  have ha : a < 220 := by omega
  rw [if_pos ⟨by omega, ha⟩] at rm
  have rm' : f_X11_checkRoom σ (A 0 0) 1 = some (.inr ()) := rm
  have L1 : LE ni c a sh S K (uI M 8 0) := hL0
  obtain ⟨n1, n2⟩ := L1.note (b := -1) (d := d) (M2 := nM (uI M 8 0) a c (iI (d : Nat)) (iI (-1))) hni hle ha hd ⟨by decide, by omega⟩ (Or.inl ⟨rfl, rfl⟩)
  have n3 := n1.enter (x := x) (y := y) (d := d) (v := v4) (by omega) hx hy (by simp only [nM, uA_v, uI_o, Nat.reduceEqDiff, false_and, and_self, if_false, if_true]) hd
  obtain ⟨K1, hK1⟩ : ∃ K1, K1 = nK K a c (iI (d : Nat)) (iI (-1)) := ⟨_, rfl⟩
  obtain ⟨M1, hM1⟩ : ∃ M1, M1 = nM (uI M 8 0) a c (iI (d : Nat)) (iI (-1)) := ⟨_, rfl⟩
  rw [← hK1, ← hM1] at n3
  have k4 : K1.1 17 0 4 = iI (c : Nat) := by rw [hK1]; exact n1.2.2.2.2.1.1
  have k8 : K1.1 17 0 8 = iI ((a + 1 : Nat) : Int) := by rw [hK1]; exact n1.2.2.2.2.1.2.2.1
  have m4 : M1.1 46 = iI (c : Nat) := by rw [hM1]; exact n1.2.2.2.2.1.2.1
  have key : f_X11_post (ovk A W K σ) (A 0 0) (iI (d : Nat)) (iI (x : Nat)) (iI (y : Nat)) v4 = some (.inr (iI ((c + 1 : Nat) : Int)), ovk A W (eK K1 a c (iI (x : Nat)) (iI (y : Nat)) v4) σ) := by
    have xb := x_begin (K := K) (σ := σ) (d := iI (d : Nat)) (b := iI (-1)) hC.1 q3 q1 ha
    rw [← hK1] at xb
    have xe := x_enter (K := K1) (σ := σ) (x := iI (x : Nat)) (y := iI (y : Nat)) (v := v4) hC.1 k8 k4 ha (by omega)
    have ns' := ns
    have rm2 := rm'
    have xo' := hC.xo
    rw [← hC.eqk] at ns' rm2 xo'
    have xb' : f_X3_begin (ovk A W K σ) (A 17 0) (iI (d : Nat)) (-1) = some ((), ovk A W K1 σ) := xb
    unfold f_X11_post
    rw [p1, Option.bind_some]
    dsimp only [bs]
    rw [o1, Option.bind_some]
    dsimp only
    rw [d1, Option.bind_some]
    dsimp only
    rw [m1, Option.bind_some]
    dsimp only
    unfold f_X11_checkUnlike
    rw [if_neg hxy, Option.bind_some]
    dsimp only
    rw [xo', Option.bind_some, ns', Option.bind_some]
    dsimp only
    rw [rm2, Option.bind_some]
    dsimp only
    rw [xR_0_10 hC.1, Option.bind_some, xO_17 hC.1, Option.bind_some, xb', bb2, xR_0_10 hC.1, Option.bind_some, xO_17 hC.1, Option.bind_some, xe, bb2]
  rw [hC.eqk] at key
  refine ag_ok (v := (iI ((c + 1 : Nat) : Int)).toInt64) (y := sz) rfl ho ?_ (hC.cls (K' := eK K1 a c (iI (x : Nat)) (iI (y : Nat)) v4)) (fun ρ => ⟨eM M1 c (iI (d : Nat)) (iI (x : Nat)) (iI (y : Nat)) v4, iI ((c + 1 : Nat) : Int), ?_, ?_, rfl, ?_⟩)
  · simp only [f_L_post, hC.xo, Option.bind_some, key, bb2, bs]
  · rw [run, if_pos hsh, if_neg h200]
    unfold b_X12_post_91
    have mn : f_X12_notes (ov mb (uI M 8 0) ρ) mb (iI (d : Nat)) (-1) = some ((), ov mb M1 ρ) := by
      rw [hM1]
      exact m_notes (M := uI M 8 0) q4 q2 ha
    have me := m_enters (mb := mb) (M := M1) (σ := ρ) (d := iI (d : Nat)) (x := iI (x : Nat)) (y := iI (y : Nat)) (v := v4) m4 (by omega)
    rw [ov_isO, Option.bind_some, ff0, bb2, if_pos rfl, ov_isO, Option.bind_some, mn, bb2, ov_isO, Option.bind_some, me, bb2, oI_46, Option.bind_some]
    rfl
  · rw [hM1]; rfl
  · refine Rel.led (((hR.sd (Sd.u8 (v := 0))).up).vk (fun p u s h => hC.vcls h)) (eK_E (by rw [hK1]; exact nK_E KE.rf)) (eM_E (by rw [hM1]; exact nM_E ME.rf)) ⟨c + 1, a + 1, sh, _, n3, ?_⟩
    show a + 1 ≤ c + 1 + bkN (M1.2.1 50) (a + 1)
    rw [hM1, n2]
    have : a ≤ c + bkN (M.2.1 50) a := hle
    show a + 1 ≤ c + 1 + (bkN (M.2.1 50) a + _)
    omega
