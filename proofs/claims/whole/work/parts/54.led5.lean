/-! ===== side, nextAccount, isBooked, isSound ===== -/
def sm (f : Nat → Int32) (u : Nat → Int64) (lo hi : Int32) : Nat → Int64
  | 0 => 0
  | n + 1 => sm f u lo hi n + (if f n < lo ∨ hi < f n then 0 else u n)
theorem sm_c {f g : Nat → Int32} {u w : Nat → Int64} {lo hi : Int32} {a : Nat} (h : ∀ i, i < a → f i = g i) (h2 : ∀ i, i < a → u i = w i) : sm f u lo hi a = sm g w lo hi a := by
  induction a with
  | zero => rfl
  | succ a ih => unfold sm; rw [ih (fun i hi => h i (by omega)) (fun i hi => h2 i (by omega)), h a (by omega), h2 a (by omega)]
theorem sm_all {f : Nat → Int32} {u : Nat → Int64} {a : Nat} (h : ∀ i, i < a → ∃ x : Nat, x ≤ 99 ∧ f i = iI (x : Nat)) : sm f u 0 99 a = sumL u a := by
  induction a with
  | zero => rfl
  | succ a ih =>
    unfold sm sumL
    obtain ⟨x, h1, h2⟩ := h a (by omega)
    rw [ih (fun i hi => h i (by omega)), h2, if_neg]
    rintro (w | w)
    · rw [iI_lit 0, jI_lt (by omega) (by omega)] at w; omega
    · rw [iI_lit 99, jI_lt (by omega) (by omega)] at w; omega
theorem m_inX {x lo hi : Int32} : f_X12_in (Int32.toInt64 x) (Int32.toInt64 lo) (Int32.toInt64 hi) = some (if x < lo ∨ hi < x then 0 else 1) := by
  obtain ⟨k, k1, k2, rfl⟩ := iI_of x
  obtain ⟨l, l1, l2, rfl⟩ := iI_of lo
  obtain ⟨h, h1, h2, rfl⟩ := iI_of hi
  rw [m_rangeI (v := k) (a := l) (b := h) (iI_iL ⟨l1, l2⟩) (iI_iL ⟨h1, h2⟩) ⟨k1, k2⟩ ⟨l1, l2⟩ ⟨h1, h2⟩]
  have e1 : iI k < iI l ↔ k < l := iI_lt ⟨k1, k2⟩ ⟨l1, l2⟩
  have e2 : iI h < iI k ↔ h < k := iI_lt ⟨h1, h2⟩ ⟨k1, k2⟩
  by_cases c : iI k < iI l ∨ iI h < iI k
  · rw [if_pos c, decide_eq_false (by rw [e1, e2] at c; omega)]; rfl
  · rw [if_neg c, decide_eq_true (by rw [e1, e2] at c; omega)]; rfl
def stp (v acc x : Int32) : Int32 := if x ≤ v then acc else if x < acc then x else acc
def na (f g : Nat → Int32) (v : Int32) : Nat → Int32
  | 0 => 100
  | n + 1 => stp v (stp v (na f g v n) (f n)) (g n)
theorem na_c {f g f' g' : Nat → Int32} {v : Int32} {a : Nat} (h : ∀ i, i < a → f i = f' i) (h2 : ∀ i, i < a → g i = g' i) : na f g v a = na f' g' v a := by
  induction a with
  | zero => rfl
  | succ a ih => unfold na; rw [ih (fun i hi => h i (by omega)) (fun i hi => h2 i (by omega)), h a (by omega), h2 a (by omega)]
section LZ
variable {mb ni c a n N : Nat} {sh : Int} {S : Nat → Nat} {A : AM} {W : WM} {K : KS} {M : MS} {σ : Sto}
theorem x_sum (hG : Gk ni A W) (h4 : K.1 17 0 4 = iI (c : Nat)) (hc : c ≤ 200) (hN : 300 ≤ N) {lo hi v3 : Int32} : f_X3_sum N (ovk A W K σ) (A 17 0) lo hi v3 = some (sm (if v3 = 0 then K.1 19 0 else K.1 18 0) (K.2.1 20 0) lo hi c) := by
  unfold f_X3_sum b_X3_sum_6
  obtain ⟨f, hf⟩ : ∃ f, f = if v3 = 0 then K.1 19 0 else K.1 18 0 := ⟨_, rfl⟩
  rw [← hf]
  refine lp_for (n := c) (st := fun k => (ovk A W K σ, A 17 0, lo, hi, v3, sm f (K.2.1 20 0) lo hi k, iI (k : Nat))) (fun k hk KK => ?_) (fun KK => ?_) N 0 (Nat.zero_le _) (by omega)
  · have i200 : inB (iI (k : Nat)) 200 = true := inN (by omega) (by decide)
    have k200 : (iI (k : Nat)).toNatClampNeg = k := clN (by omega)
    dsimp only
    unfold b_X3_sum_6_body
    have e36 : ∀ x, x = f k → b_X3_sum_36 N KK (ovk A W K σ) (A 17 0) lo hi v3 (sm f (K.2.1 20 0) lo hi k) (iI (k : Nat)) x = KK (ovk A W K σ, A 17 0, lo, hi, v3, sm f (K.2.1 20 0) lo hi (k + 1), iI ((k + 1 : Nat) : Int)) := by
      intro x hx
      subst hx
      show _ = KK (ovk A W K σ, A 17 0, lo, hi, v3, sm f (K.2.1 20 0) lo hi k + (if f k < lo ∨ hi < f k then 0 else K.2.1 20 0 k), iI ((k + 1 : Nat) : Int))
      unfold b_X3_sum_36 b_X3_sum_62 b_X3_sum_63
      dsimp only [lt_]
      rw [jI_s]
      by_cases h : f k < lo
      · rw [if_pos h, if_pos (Or.inl h)]
      · by_cases h' : hi < f k
        · rw [if_neg h, if_pos h', if_pos (Or.inr h')]
        · rw [if_neg h, if_neg h', if_neg (fun w => w.elim h h'), xR_17_2 hG, Option.bind_some, xA_20 hG, i200, if_pos rfl, k200, Option.bind_some]
    rw [xI_17_4 hG, Option.bind_some, h4, if_neg (fun w => by rw [jI_le (by omega) (by omega)] at w; omega)]
    by_cases hv : v3 = 0
    · rw [if_pos hv, xR_17_1 hG, Option.bind_some, xA_19 hG, i200, if_pos rfl, k200, Option.bind_some]
      exact e36 _ (by rw [hf, if_pos hv])
    · rw [if_neg hv, xR_17_0 hG, Option.bind_some, xA_18 hG, i200, if_pos rfl, k200, Option.bind_some]
      exact e36 _ (by rw [hf, if_neg hv])
  · dsimp only
    unfold b_X3_sum_6_body
    rw [xI_17_4 hG, Option.bind_some, h4, if_pos (by rw [jI_le (by omega) (by omega)]; omega)]
theorem m_side (h4 : M.1 46 = iI (c : Nat)) (hc : c ≤ 200) (hN : 300 ≤ N) {lo hi v3 : Int32} : b_X12_side_43 N (ov mb M σ) mb lo hi v3 0 0 = some (sm (if v3 = 0 then M.2.1 44 else M.2.1 43) (M.2.2 45) lo hi c, ov mb M σ) := by
  unfold b_X12_side_43
  obtain ⟨f, hf⟩ : ∃ f, f = if v3 = 0 then M.2.1 44 else M.2.1 43 := ⟨_, rfl⟩
  rw [← hf]
  refine lp_for (n := c) (st := fun k => (ov mb M σ, mb, lo, hi, v3, sm f (M.2.2 45) lo hi k, iI (k : Nat))) (fun k hk KK => ?_) (fun KK => ?_) N 0 (Nat.zero_le _) (by omega)
  · have i200 : inB (iI (k : Nat)) 200 = true := inN (by omega) (by decide)
    have k200 : (iI (k : Nat)).toNatClampNeg = k := clN (by omega)
    dsimp only
    unfold b_X12_side_43_body
    have e36 : ∀ x, x = f k → b_X12_side_77 N KK (ov mb M σ) mb lo hi v3 (iI (k : Nat)) (Int32.toInt64 x) (sm f (M.2.2 45) lo hi k) = KK (ov mb M σ, mb, lo, hi, v3, sm f (M.2.2 45) lo hi (k + 1), iI ((k + 1 : Nat) : Int)) := by
      intro x hx
      subst hx
      show _ = KK (ov mb M σ, mb, lo, hi, v3, sm f (M.2.2 45) lo hi k + (if f k < lo ∨ hi < f k then 0 else M.2.2 45 k), iI ((k + 1 : Nat) : Int))
      unfold b_X12_side_77 b_X12_side_98
      dsimp only [lt_]
      rw [jI_s, m_inX, Option.bind_some]
      by_cases h : f k < lo ∨ hi < f k
      · rw [if_pos h, if_pos h, if_pos rfl]
      · rw [if_neg h, if_neg h, if_neg (by decide), oR_45, Option.bind_some, oA_45, i200, if_pos rfl, k200, Option.bind_some]
    rw [oI_46, Option.bind_some, h4, if_neg (fun w => by rw [jI_le (by omega) (by omega)] at w; omega)]
    by_cases hv : v3 = 0
    · rw [if_pos hv, oR_44, Option.bind_some, oA_44, i200, if_pos rfl, k200, Option.bind_some]
      exact e36 _ (by rw [hf, if_pos hv])
    · rw [if_neg hv, oR_43, Option.bind_some, oA_43, i200, if_pos rfl, k200, Option.bind_some]
      exact e36 _ (by rw [hf, if_neg hv])
  · dsimp only
    unfold b_X12_side_43_body
    rw [oI_46, Option.bind_some, h4, if_pos (by rw [jI_le (by omega) (by omega)]; omega)]
theorem x_least (hG : Gk ni A W) (h4 : K.1 17 0 4 = iI (c : Nat)) (hc : c ≤ 200) (hN : 300 ≤ N) {v : Int32} : f_X3_leastAbove N (ovk A W K σ) (A 17 0) v = some (na (K.1 18 0) (K.1 19 0) v c) := by
  unfold f_X3_leastAbove b_X3_leastAbove_5
  refine lp_for (n := c) (st := fun k => (ovk A W K σ, A 17 0, v, na (K.1 18 0) (K.1 19 0) v k, iI (k : Nat))) (fun k hk KK => ?_) (fun KK => ?_) N 0 (Nat.zero_le _) (by omega)
  · have i200 : inB (iI (k : Nat)) 200 = true := inN (by omega) (by decide)
    have k200 : (iI (k : Nat)).toNatClampNeg = k := clN (by omega)
    dsimp only
    have e34 : ∀ acc, b_X3_leastAbove_34 N KK (ovk A W K σ) (A 17 0) v acc (iI (k : Nat)) = KK (ovk A W K σ, A 17 0, v, stp v acc (K.1 19 0 k), iI ((k + 1 : Nat) : Int)) := by
      intro acc
      unfold b_X3_leastAbove_34 b_X3_leastAbove_55 stp
      rw [xR_17_1 hG, Option.bind_some, xA_19 hG, i200, if_pos rfl, k200, Option.bind_some]
      dsimp only [lt_]
      rw [jI_s]
      by_cases h : K.1 19 0 k ≤ v
      · rw [if_pos h, if_pos h]
      · rw [if_neg h, if_neg h, Option.bind_some, xA_19 hG, i200, if_pos rfl, k200, Option.bind_some]
    unfold b_X3_leastAbove_5_body
    rw [xI_17_4 hG, Option.bind_some, h4, if_neg (fun w => by rw [jI_le (by omega) (by omega)] at w; omega), xR_17_0 hG, Option.bind_some, xA_18 hG, i200, if_pos rfl, k200, Option.bind_some]
    show _ = KK (ovk A W K σ, A 17 0, v, stp v (stp v (na (K.1 18 0) (K.1 19 0) v k) (K.1 18 0 k)) (K.1 19 0 k), iI ((k + 1 : Nat) : Int))
    by_cases h : K.1 18 0 k ≤ v
    · rw [if_pos h, e34]
      rw [show stp v (na (K.1 18 0) (K.1 19 0) v k) (K.1 18 0 k) = na (K.1 18 0) (K.1 19 0) v k from if_pos h]
    · rw [if_neg h, Option.bind_some, xA_18 hG, i200, if_pos rfl, k200, Option.bind_some]
      dsimp only [lt_]
      rw [e34]
      rw [show stp v (na (K.1 18 0) (K.1 19 0) v k) (K.1 18 0 k) = (if K.1 18 0 k < na (K.1 18 0) (K.1 19 0) v k then K.1 18 0 k else na (K.1 18 0) (K.1 19 0) v k) from if_neg h]
  · dsimp only
    unfold b_X3_leastAbove_5_body
    rw [xI_17_4 hG, Option.bind_some, h4, if_pos (by rw [jI_le (by omega) (by omega)]; omega)]
theorem stp_le {v acc x : Int32} : stp v acc x = if x ≤ v then acc else if acc ≤ x then acc else x := by
  unfold stp
  by_cases h : x ≤ v
  · rw [if_pos h, if_pos h]
  · rw [if_neg h, if_neg h]
    by_cases h' : x < acc
    · rw [if_pos h', if_neg (fun w => absurd h' (Int32.not_lt.mpr w))]
    · rw [if_neg h', if_pos (Int32.not_lt.mp h')]
theorem m_next (h4 : M.1 46 = iI (c : Nat)) (hc : c ≤ 200) (hN : 300 ≤ N) {v : Int32} : f_X12_nextAccount N (ov mb M σ) mb v = (if na (M.2.1 43) (M.2.1 44) v c = 100 then b_X12_nextAccount_93 N (ov mb M σ) (na (M.2.1 43) (M.2.1 44) v c) 1 mb else b_X12_nextAccount_93 N (ov mb M σ) (na (M.2.1 43) (M.2.1 44) v c) 0 mb) := by
  unfold f_X12_nextAccount b_X12_nextAccount_5
  refine lp_for (n := c) (st := fun k => (ov mb M σ, mb, v, na (M.2.1 43) (M.2.1 44) v k, iI (k : Nat))) (fun k hk KK => ?_) (fun KK => ?_) N 0 (Nat.zero_le _) (by omega)
  · have i200 : inB (iI (k : Nat)) 200 = true := inN (by omega) (by decide)
    have k200 : (iI (k : Nat)).toNatClampNeg = k := clN (by omega)
    dsimp only
    have e34 : ∀ acc, b_X12_nextAccount_43 N KK (ov mb M σ) mb v (iI (k : Nat)) acc = KK (ov mb M σ, mb, v, stp v acc (M.2.1 44 k), iI ((k + 1 : Nat) : Int)) := by
      intro acc
      rw [stp_le]
      unfold b_X12_nextAccount_43 b_X12_nextAccount_73 b_X12_nextAccount_74
      simp only [oR_44, Option.bind_some, oA_44, i200, if_true, k200, lt_, jI_s]
      by_cases h : M.2.1 44 k ≤ v
      · rw [if_pos h, if_pos h]
      · rw [if_neg h, if_neg h]
        by_cases h' : acc ≤ M.2.1 44 k
        · rw [if_pos h', if_pos h']
        · rw [if_neg h', if_neg h']
    unfold b_X12_nextAccount_5_body b_X12_nextAccount_42
    rw [oI_46, Option.bind_some, h4, if_neg (fun w => by rw [jI_le (by omega) (by omega)] at w; omega)]
    simp only [oR_43, Option.bind_some, oA_43, i200, if_true, k200, e34]
    show _ = KK (ov mb M σ, mb, v, stp v (stp v (na (M.2.1 43) (M.2.1 44) v k) (M.2.1 43 k)) (M.2.1 44 k), iI ((k + 1 : Nat) : Int))
    rw [stp_le (acc := na (M.2.1 43) (M.2.1 44) v k) (x := M.2.1 43 k)]
    by_cases h : M.2.1 43 k ≤ v
    · rw [if_pos h, if_pos h]
    · rw [if_neg h, if_neg h]
      by_cases h' : na (M.2.1 43) (M.2.1 44) v k ≤ M.2.1 43 k
      · rw [if_pos h', if_pos h']
      · rw [if_neg h', if_neg h']
  · dsimp only
    unfold b_X12_nextAccount_5_body
    rw [oI_46, Option.bind_some, h4, if_pos (by rw [jI_le (by omega) (by omega)]; omega)]
end LZ
theorem p_side {xb mb ob N : Nat} (hN : 1000 ≤ N) : A_side (I0 xb mb ob) N xb mb ob := by
  intro v1 v2 v3
  refine ag_in (fun n σ sz ni A W K M hn hA ho hC hR hF => ?_)
  subst hA
  have bb2 : ∀ {α β γ : Type} (x : α) (y : β) (f : α → β → Option γ), b2 (some (x, y)) f = f x y := fun _ _ _ => rfl
  obtain ⟨c, a, sh, S, hL, hle⟩ := hR.2.2.2.2.2.2.2.2
  obtain ⟨l1, l2, l3, l4, ⟨q1, q2, q3, q4, q5, q6⟩, l5, l6, l7, l8, l9, l10⟩ := hL
  have no : ∀ (ρ : Sto) (k : Nat), k ≠ 0 → k < 100 → b_X12_side_29 N (ov mb M ρ) mb v1 v2 v3 (iI (k : Nat)) mb = some (0, ov mb (uI M 8 (iI (k : Nat))) ρ) := by
    intro ρ k h1 h2
    unfold b_X12_side_29
    rw [ov_isO, Option.bind_some, m_fails h2, decide_eq_true (by omega)]
    rfl
  rcases ac_cases (v := v1) with ⟨p1, p2⟩ | ⟨x, rfl, hx, p1, p2⟩
  · refine ag_no (k := 1) (y := sz) rfl ho hC hR ?_ (by decide) (by decide) (fun ρ => ⟨uI M 8 1, 0, ?_, Sd.u8, u8_v⟩)
    · simp only [f_L_side, f_X11_side, hC.xo, Option.bind_some, p1, bs]
      rfl
    · unfold f_X12_side b_X12_side_15
      rw [p2, Option.bind_some, if_pos rfl]
      exact no ρ 1 (by decide) (by decide)
  rcases ac_cases (v := v2) with ⟨o1, o2⟩ | ⟨y, rfl, hy, o1, o2⟩
  · refine ag_no (k := 1) (y := sz) rfl ho hC hR ?_ (by decide) (by decide) (fun ρ => ⟨uI M 8 1, 0, ?_, Sd.u8, u8_v⟩)
    · simp only [f_L_side, f_X11_side, hC.xo, Option.bind_some, p1, o1, bs]
      rfl
    · unfold f_X12_side b_X12_side_15
      rw [p2, Option.bind_some, if_neg (by decide), o2, Option.bind_some, if_pos rfl]
      exact no ρ 1 (by decide) (by decide)
  by_cases hxy : iI (x : Nat) ≤ iI (y : Nat)
  case neg =>
    refine ag_no (k := 2) (y := sz) rfl ho hC hR ?_ (by decide) (by decide) (fun ρ => ⟨uI M 8 2, 0, ?_, Sd.u8, u8_v⟩)
    · simp only [f_L_side, f_X11_side, hC.xo, Option.bind_some, p1, o1, bs, if_neg hxy]
      rfl
    · unfold f_X12_side
      rw [p2, Option.bind_some, if_neg (by decide), o2, Option.bind_some, if_neg (by decide), if_neg hxy]
      exact no ρ 2 (by decide) (by decide)
  obtain ⟨ans, hans⟩ : ∃ ans, ans = sm (if v3 = 0 then K.1 19 0 else K.1 18 0) (K.2.1 20 0) (iI (x : Nat)) (iI (y : Nat)) c := ⟨_, rfl⟩
  have key : f_X11_side N (ovk A W K σ) (A 0 0) (iI (x : Nat)) (iI (y : Nat)) v3 = some (.inr ans) := by
    unfold f_X11_side
    rw [p1, Option.bind_some]
    dsimp only [bs]
    rw [o1, Option.bind_some]
    dsimp only
    rw [if_pos hxy, xR_0_10 hC.1, Option.bind_some, xO_17 hC.1, Option.bind_some, x_sum hC.1 q1 l1 (by omega), Option.bind_some, hans]
  rw [hC.eqk] at key
  refine ag_ok (v := ans) (y := sz) rfl ho ?_ hC (fun ρ => ⟨uI M 8 0, ans, ?_, u8_v, rfl, (hR.sd Sd.u8).up⟩)
  · simp only [f_L_side, hC.xo, Option.bind_some, key, bs]
  · unfold f_X12_side
    rw [p2, Option.bind_some, if_neg (by decide), o2, Option.bind_some, if_neg (by decide), if_pos hxy]
    unfold b_X12_side_29
    have m4 : (uI M 8 0).1 46 = iI (c : Nat) := by rw [uI_v, if_neg (by decide)]; exact q2
    rw [ov_isO, Option.bind_some, ff0, bb2, if_pos rfl, m_side m4 l1 (by omega), hans]
    refine congrArg (fun z => some (z, ov mb (uI M 8 0) ρ)) ?_
    refine sm_c (fun i hi => ?_) (fun i hi => (l5 i hi).2.symm)
    obtain ⟨⟨x, y, d', g1, g2, g3, g4, g5, g6, g7, g8, g9⟩, -⟩ := l5 i hi
    by_cases hv : v3 = 0
    · rw [if_pos hv, if_pos hv, g6]; exact g7
    · rw [if_neg hv, if_neg hv, g4]; exact g5
theorem p_nextAccount {xb mb ob N : Nat} (hN : 1000 ≤ N) : A_nextAccount (I0 xb mb ob) N xb mb ob := by
  intro v
  refine ag_in (fun n σ sz ni A W K M hn hA ho hC hR hF => ?_)
  subst hA
  have bb2 : ∀ {α β γ : Type} (x : α) (y : β) (f : α → β → Option γ), b2 (some (x, y)) f = f x y := fun _ _ _ => rfl
  obtain ⟨c, a, sh, S, hL, hle⟩ := hR.2.2.2.2.2.2.2.2
  obtain ⟨l1, l2, l3, l4, ⟨q1, q2, q3, q4, q5, q6⟩, l5, l6, l7, l8, l9, l10⟩ := hL
  obtain ⟨ans, hans⟩ : ∃ ans, ans = na (K.1 18 0) (K.1 19 0) v c := ⟨_, rfl⟩
  have hans2 : na (M.2.1 43) (M.2.1 44) v c = ans := by
    rw [hans]
    refine na_c (fun i hi => ?_) (fun i hi => ?_) <;> obtain ⟨⟨x, y, d', g1, g2, g3, g4, g5, g6, g7, g8, g9⟩, -⟩ := l5 i hi
    · rw [g4]; exact g5
    · rw [g6]; exact g7
  have key : f_X11_nextAccount N (ovk A W K σ) (A 0 0) v = if ans = 100 then some (.inl 2) else some (.inr ans) := by
    unfold f_X11_nextAccount
    rw [xR_0_10 hC.1, Option.bind_some, xO_17 hC.1, Option.bind_some, x_least hC.1 q1 l1 (by omega), Option.bind_some, hans]
  rw [hC.eqk] at key
  by_cases h : ans = 100
  · rw [if_pos h] at key
    refine ag_no (k := 1) (y := sz) rfl ho hC hR ?_ (by decide) (by decide) (fun ρ => ⟨uI M 8 1, 0, ?_, Sd.u8, u8_v⟩)
    · simp only [f_L_nextAccount, hC.xo, Option.bind_some, key, bs]
      rfl
    · rw [m_next q2 l1 (by omega), hans2, if_pos h]
      unfold b_X12_nextAccount_93
      rw [ov_isO, Option.bind_some, ff1, bb2, if_neg (by decide)]
  · rw [if_neg h] at key
    refine ag_ok (v := ans.toInt64) (y := sz) rfl ho ?_ hC (fun ρ => ⟨uI M 8 0, ans, ?_, u8_v, rfl, (hR.sd Sd.u8).up⟩)
    · simp only [f_L_nextAccount, hC.xo, Option.bind_some, key, bs]
    · rw [m_next q2 l1 (by omega), hans2, if_neg h]
      unfold b_X12_nextAccount_93
      rw [ov_isO, Option.bind_some, ff0, bb2, if_pos rfl]
