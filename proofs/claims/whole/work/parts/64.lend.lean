/-! ===== the loan: months, what is owed ===== -/
def mo (r x : Nat) : Nat := rq false 101 (x * r) 120000
def pd (r p x : Nat) : Nat := if p - mo r x < x then p - mo r x else x
def ow (r p x : Nat) : Nat → Nat
  | 0 => x
  | n + 1 => ow r p x n - pd r p (ow r p x n)
theorem rUp_101 {q r d : Nat} : rUp false 101 q r d = decide (d < r + r ∨ (r + r = d ∧ q % 2 = 1)) := by
  unfold rUp
  rw [if_neg (by decide), if_pos rfl]
theorem rq101_mono {a b d : Nat} (hd : 0 < d) (h : a ≤ b) : rq false 101 a d ≤ rq false 101 b d := by
  have h1 := rq_le false 101 a d
  have h2 := rq_le false 101 b d
  have h3 : a / d ≤ b / d := Nat.div_le_div_right h
  by_cases e : a / d = b / d
  · have ma := Nat.div_add_mod a d
    have mb := Nat.div_add_mod b d
    have hr : a % d ≤ b % d := by rw [e] at ma; omega
    unfold rq
    rw [rUp_101, rUp_101, e]
    by_cases c : a % d ≠ 0 ∧ decide (d < a % d + a % d ∨ (a % d + a % d = d ∧ b / d % 2 = 1)) = true
    · have c2 := of_decide_eq_true c.2
      rw [if_pos c, if_pos ⟨by omega, decide_eq_true (by omega)⟩]
      exact Nat.le_refl _
    · rw [if_neg c]
      split <;> omega
  · omega
theorem mo_mono {r x y : Nat} (h : x ≤ y) : mo r x ≤ mo r y := rq101_mono (by decide) (Nat.mul_le_mul_right r h)
theorem ow_le {r p x n : Nat} : ow r p x n ≤ x := by
  induction n with
  | zero => exact Nat.le_refl _
  | succ n ih => unfold ow; omega
theorem mo_le {r x : Nat} (hx : x ≤ 1000000000000) (hr : r ≤ 9999) : mo r x ≤ 100000000000 := by
  have h1 : x * r ≤ 1000000000000 * 9999 := Nat.mul_le_mul hx hr
  have := (rq_le false 101 (x * r) 120000).2
  unfold mo
  omega
theorem m_month {r x : Nat} (hx : x ≤ 1000000000000) (hr : r ≤ 9999) : f_X12_month (iL (x : Nat)) (iI (r : Nat)) = some (iL (mo r x : Nat)) := by
  have h1 : x * r ≤ 1000000000000 * 9999 := Nat.mul_le_mul hx hr
  obtain ⟨a, ha⟩ : ∃ a, a = x * r := ⟨_, rfl⟩
  have hm : a % 120000 < 120000 := Nat.mod_lt _ (by decide)
  unfold f_X12_month mo rq
  rw [rUp_101, iI_iL ⟨by omega, by omega⟩, jL_mul, ← ha]
  dsimp only [lt_]
  rw [iL_lit 120000, jL_md (by omega) (by decide), jL_dv (by omega) (by decide)]
  have e2 : iL ((a / 120000 : Nat) : Int) - iL ((a / 120000 : Nat) : Int) / 2 * 2 = iL ((a / 120000 % 2 : Nat) : Int) := by
    rw [iL_lit 2, jL_md (by omega) (by decide)]
  have c1 : (60000 : Int64) < iL ((a % 120000 : Nat) : Int) ↔ 60000 < a % 120000 := by rw [iL_lit 60000, jL_lt (by decide) (by omega)]
  have c2 : iL ((a % 120000 : Nat) : Int) = (60000 : Int64) ↔ a % 120000 = 60000 := by rw [iL_lit 60000, jL_eq (by omega) (by decide)]
  have c3 : iL ((a / 120000 % 2 : Nat) : Int) = (1 : Int64) ↔ a / 120000 % 2 = 1 := by rw [iL_lit 1, jL_eq (by omega) (by decide)]
  have s1 : iL ((a / 120000 : Nat) : Int) + 1 = iL ((a / 120000 + 1 : Nat) : Int) := by rw [iL_lit 1, jL_add]
  have s0 : iL ((a / 120000 : Nat) : Int) + 0 = iL ((a / 120000 : Nat) : Int) := by rw [iL_lit 0, jL_add, Nat.add_zero]
  rw [e2, s1, s0]
  by_cases d1 : 60000 < a % 120000
  · rw [if_pos (c1.mpr d1), if_pos ⟨by omega, decide_eq_true (by omega)⟩]
  · rw [if_neg (fun w => d1 (c1.mp w))]
    by_cases d2 : a % 120000 = 60000
    · rw [if_pos (c2.mpr d2)]
      by_cases d3 : a / 120000 % 2 = 1
      · rw [if_pos (c3.mpr d3), if_pos ⟨by omega, decide_eq_true (by omega)⟩]
      · rw [if_neg (fun w => d3 (c3.mp w)), if_neg (fun w => by have := of_decide_eq_true w.2; omega)]
    · rw [if_neg (fun w => d2 (c2.mp w)), if_neg (fun w => by have := of_decide_eq_true w.2; omega)]
theorem x_month {r x : Nat} (hx : x ≤ 1000000000000) (hr : r ≤ 9999) : f_X4_monthOf (iL (x : Nat)) (iI (r : Nat)) = some (.inr (iL (mo r x : Nat))) := by
  have h1 : x * r ≤ 1000000000000 * 9999 := Nat.mul_le_mul hx hr
  unfold f_X4_monthOf
  rw [iI_iL ⟨by omega, by omega⟩, jL_mul, iL_lit 120000, x_quotient (by decide) (by decide) (by omega) (by decide), Option.bind_some, rqR_fl]
  have : fl 101 (x * r) 120000 = false := by unfold fl; exact decide_eq_false (fun w => absurd w.2 (by decide))
  rw [if_neg (by rw [this]; decide)]
  rfl
theorem x_paidOf {r x p : Nat} (hx : x ≤ 1000000000000) (hr : r ≤ 9999) (hp : p ≤ 1000000000000) (hm : mo r x ≤ p) : f_X4_paidOf (iL (x : Nat)) (iI (r : Nat)) (iL (p : Nat)) = some (.inr (iL (pd r p x : Nat))) := by
  have hm2 := mo_le hx hr
  unfold f_X4_paidOf
  rw [x_month hx hr, Option.bind_some]
  dsimp only [bs]
  have e : iL (p : Nat) - iL (mo r x : Nat) = iL ((p - mo r x : Nat) : Int) := by
    rw [iL_sub]
    exact congrArg iL (by omega)
  have c : iL ((p - mo r x : Nat) : Int) < iL (x : Nat) ↔ p - mo r x < x := jL_lt (by omega) (by omega)
  rw [e]
  unfold pd
  by_cases h : p - mo r x < x
  · rw [if_pos (c.mpr h), if_pos h]
  · rw [if_neg (fun w => h (c.mp w)), if_neg h]
theorem pd_le {r p x : Nat} : pd r p x ≤ x := by
  unfold pd
  split <;> omega
theorem iL_subN {a b : Nat} (h : b ≤ a) : iL (a : Nat) - iL (b : Nat) = iL ((a - b : Nat) : Int) := by
  rw [iL_sub]
  exact congrArg iL (by omega)
/-- when all is paid -/
theorem ow_cases (r p x : Nat) : (∃ c, c ≤ 120 ∧ ow r p x c = 0 ∧ ∀ i, i < c → 0 < ow r p x i) ∨ ∀ i, i ≤ 120 → 0 < ow r p x i := by
  have : ∀ n, (∃ c, c ≤ n ∧ ow r p x c = 0 ∧ ∀ i, i < c → 0 < ow r p x i) ∨ ∀ i, i ≤ n → 0 < ow r p x i := by
    intro n
    induction n with
    | zero =>
      by_cases h : ow r p x 0 = 0
      · exact Or.inl ⟨0, Nat.le_refl _, h, fun i hi => by omega⟩
      · exact Or.inr (fun i hi => by have : i = 0 := by omega
                                     subst this; omega)
    | succ n ih =>
      rcases ih with ⟨c, h1, h2, h3⟩ | h
      · exact Or.inl ⟨c, by omega, h2, h3⟩
      · by_cases h0 : ow r p x (n + 1) = 0
        · exact Or.inl ⟨n + 1, Nat.le_refl _, h0, fun i hi => h i (by omega)⟩
        · refine Or.inr (fun i hi => ?_)
          by_cases e : i = n + 1
          · subst e; omega
          · exact h i (by omega)
  exact this 120
section LN
variable {mb ni N r p x c : Nat} {A : AM} {W : WM} {K : KS} {M : MS} {σ : Sto}
theorem x_count (hx : x ≤ 1000000000000) (hr : r ≤ 9999) (hp : p ≤ 1000000000000) (hm : mo r x ≤ p) (hN : 300 ≤ N) : (∀ c, c ≤ 120 → ow r p x c = 0 → (∀ i, i < c → 0 < ow r p x i) → f_X4_countFor N (iL (x : Nat)) (iI (r : Nat)) (iL (p : Nat)) = some (.inr (iI (c : Nat)))) ∧ ((∀ i, i ≤ 120 → 0 < ow r p x i) → f_X4_countFor N (iL (x : Nat)) (iI (r : Nat)) (iL (p : Nat)) = some (.inr (iI (121 : Nat)))) := by
  have step : ∀ k, k ≤ 120 → 0 < ow r p x k → ∀ KK : Int32 × Int64 × Int64 × Int32 → Option (Nat ⊕ Int32), b_X4_countFor_6_body N KK (iI (r : Nat)) (iL (p : Nat)) (iL (ow r p x k : Nat)) (iI (k : Nat)) = KK (iI (r : Nat), iL (p : Nat), iL (ow r p x (k + 1) : Nat), iI ((k + 1 : Nat) : Int)) := by
    intro k hk h0 KK
    have hle := ow_le (r := r) (p := p) (x := x) (n := k)
    unfold b_X4_countFor_6_body
    rw [if_neg (fun w => by rw [iL_lit 0, jL_le (by omega) (by omega)] at w; omega), if_neg (fun w => by rw [iI_lit 120, jI_lt (by omega) (by omega)] at w; omega), x_paidOf (by omega) hr hp (Nat.le_trans (mo_mono hle) hm), Option.bind_some]
    dsimp only [bs, lt_]
    rw [jI_s, iL_subN pd_le]
    rfl
  constructor
  · intro c hc h0 hi
    unfold f_X4_countFor b_X4_countFor_6
    refine lp_for (n := c) (st := fun k => (iI (r : Nat), iL (p : Nat), iL (ow r p x k : Nat), iI (k : Nat))) (fun k hk KK => step k (by omega) (hi k hk) KK) (fun KK => ?_) N 0 (Nat.zero_le _) (by omega)
    dsimp only
    unfold b_X4_countFor_6_body
    rw [h0, if_pos (by decide)]
  · intro hi
    unfold f_X4_countFor b_X4_countFor_6
    refine lp_for (n := 121) (st := fun k => (iI (r : Nat), iL (p : Nat), iL (ow r p x k : Nat), iI (k : Nat))) (fun k hk KK => step k (by omega) (hi k (by omega)) KK) (fun KK => ?_) N 0 (Nat.zero_le _) (by omega)
    dsimp only
    unfold b_X4_countFor_6_body
    by_cases h : iL (ow r p x 121 : Nat) ≤ 0
    · rw [if_pos h]
    · rw [if_neg h, if_pos (by decide)]
/-- the class's table, so many rows filled -/
def fK (r p x : Nat) (K : KS) : Nat → KS
  | 0 => K
  | n + 1 => kL (kL (kL (fK r p x K n) 14 0 n (iL (mo r (ow r p x n) : Nat))) 15 0 n (iL (pd r p (ow r p x n) : Nat))) 16 0 n (iL (ow r p x (n + 1) : Nat))
theorem x_fill (hG : Gk ni A W) (hx : x ≤ 1000000000000) (hr : r ≤ 9999) (hp : p ≤ 1000000000000) (hm : mo r x ≤ p) (hc : c ≤ 120) (h0 : ow r p x c = 0) (hi : ∀ i, i < c → 0 < ow r p x i) (hN : 300 ≤ N) : f_X4_fill N (ovk A W K σ) (A 13 0) (iL (x : Nat)) (iI (r : Nat)) (iL (p : Nat)) = some (.inr (iI (c : Nat)), ovk A W (kI (kL (fK r p x K c) 13 0 4 (iL (x : Nat))) 13 0 3 (iI (c : Nat))) σ) := by
  unfold f_X4_fill b_X4_fill_6
  refine lp_for (n := c) (st := fun k => (ovk A W (fK r p x K k) σ, A 13 0, iL (x : Nat), iI (r : Nat), iL (p : Nat), iL (ow r p x k : Nat), iI (k : Nat))) (fun k hk KK => ?_) (fun KK => ?_) N 0 (Nat.zero_le _) (by omega)
  · dsimp only
    have hle := ow_le (r := r) (p := p) (x := x) (n := k)
    have h1 := hi k hk
    have i120 : inB (iI (k : Nat)) 120 = true := inN (by omega) (by decide)
    have k120 : (iI (k : Nat)).toNatClampNeg = k := clN (by omega)
    have hm1 := Nat.le_trans (mo_mono (r := r) hle) hm
    unfold b_X4_fill_6_body
    rw [if_neg (fun w => by rw [iL_lit 0, jL_le (by omega) (by omega)] at w; omega), if_neg (fun w => by rw [iI_lit 120, jI_le (by omega) (by omega)] at w; omega)]
    simp only [xR_13_0 hG, xR_13_1 hG, xR_13_2 hG, xS_14 hG, xS_15 hG, xS_16 hG, xA_15 hG, i120, k120, if_true, Option.bind_some, x_month (show ow r p x k ≤ 1000000000000 by omega) hr, x_paidOf (show ow r p x k ≤ 1000000000000 by omega) hr hp hm1, bs, lt_, kL_v, and_self, jI_s, iL_subN pd_le]
    rfl
  · dsimp only
    unfold b_X4_fill_6_body b_X4_fill_75
    have e : (kI (kL (fK r p x K c) 13 0 4 (iL (x : Nat))) 13 0 3 (iI (c : Nat))).1 13 0 3 = iI (c : Nat) := kI_v.trans (if_pos ⟨rfl, rfl, rfl⟩)
    rw [h0, if_pos (by decide), xP_13_4 hG, Option.bind_some, xP_13_3 hG, Option.bind_some, xI_13_3 hG, Option.bind_some, e]
/-- the reference's table, so many rows filled; and what is copied of it -/
def gM (r p x : Nat) (M : MS) : Nat → MS
  | 0 => M
  | n + 1 => uL (uL (uL (gM r p x M n) 38 n (iL (mo r (ow r p x n) : Nat))) 39 n (iL (pd r p (ow r p x n) : Nat))) 40 n (iL (ow r p x (n + 1) : Nat))
def cM (M : MS) : Nat → MS
  | 0 => M
  | n + 1 => uL (uL (uL (cM M n) 35 n ((cM M n).2.2 38 n)) 36 n ((cM M n).2.2 39 n)) 37 n ((cM M n).2.2 40 n)
theorem m_table (hx : x ≤ 1000000000000) (hr : r ≤ 9999) (hp : p ≤ 1000000000000) (hm : mo r x ≤ p) (hc : c ≤ 120) (hi : ∀ i, i < c → 0 < ow r p x i) (he : ow r p x c = 0 ∨ c = 120) (hN : 300 ≤ N) : b_X12_lend_82 N (ov mb M σ) mb (iI (r : Nat)) (iL (p : Nat)) (iL (x : Nat)) 0 = b_X12_lend_174 N (ov mb (gM r p x M c) σ) mb (iL (ow r p x c : Nat)) (iI (c : Nat)) := by
  unfold b_X12_lend_82
  refine lp_for (n := c) (st := fun k => (ov mb (gM r p x M k) σ, mb, iI (r : Nat), iL (p : Nat), iL (ow r p x k : Nat), iI (k : Nat))) (fun k hk KK => ?_) (fun KK => ?_) N 0 (Nat.zero_le _) (by omega)
  · dsimp only
    have hle := ow_le (r := r) (p := p) (x := x) (n := k)
    have h1 := hi k hk
    have i120 : inB (iI (k : Nat)) 120 = true := inN (by omega) (by decide)
    have k120 : (iI (k : Nat)).toNatClampNeg = k := clN (by omega)
    have hm1 := Nat.le_trans (mo_mono (r := r) hle) hm
    have hm2 := mo_le (show ow r p x k ≤ 1000000000000 by omega) hr
    unfold b_X12_lend_82_body
    rw [if_neg (fun w => by rw [iL_lit 0, jL_le (by omega) (by omega)] at w; omega), if_neg (fun w => by rw [iI_lit 120, jI_le (by omega) (by omega)] at w; omega)]
    have cond : iL (p : Nat) < iL ((ow r p x k + mo r (ow r p x k) : Nat) : Int) ↔ p < ow r p x k + mo r (ow r p x k) := jL_lt (by omega) (by omega)
    have e146 : ∀ v : Int64, v = iL (pd r p (ow r p x k) : Nat) → b_X12_lend_146 N KK (ov mb (uL (gM r p x M k) 38 k (iL (mo r (ow r p x k) : Nat))) σ) mb (iI (r : Nat)) (iL (p : Nat)) (iL (ow r p x k : Nat)) (iI (k : Nat)) v (iI (k : Nat)) (mb + 32) = KK (ov mb (gM r p x M (k + 1)) σ, mb, iI (r : Nat), iL (p : Nat), iL (ow r p x (k + 1) : Nat), iI ((k + 1 : Nat) : Int)) := by
      intro v hv
      subst hv
      unfold b_X12_lend_146
      simp only [oS_39, oR_39, oA_39, oR_40, oS_40, i120, k120, if_true, Option.bind_some, lt_, uL_v, and_self, jI_s, iL_subN pd_le]
      rfl
    simp only [oR_38, oR_39, oA_38, oS_38, i120, k120, if_true, Option.bind_some, m_month (show ow r p x k ≤ 1000000000000 by omega) hr, uL_v, and_self, jL_add, cond]
    by_cases h : p < ow r p x k + mo r (ow r p x k)
    · rw [if_pos h]
      exact e146 _ (by rw [iL_subN hm1]; unfold pd; rw [if_pos (by omega)])
    · rw [if_neg h]
      exact e146 _ (by unfold pd; rw [if_neg (by omega)])
  · dsimp only
    unfold b_X12_lend_82_body
    rcases he with h | h
    · rw [h, if_pos (by decide)]
    · have hle := ow_le (r := r) (p := p) (x := x) (n := c)
      by_cases h2 : iL (ow r p x c : Nat) ≤ 0
      · rw [if_pos h2]
      · rw [if_neg h2, if_pos (by rw [iI_lit 120, jI_le (by omega) (by omega)]; omega)]
theorem m_copy (hc : c ≤ 120) (hN : 300 ≤ N) : b_X12_lend_204 N (ov mb M σ) mb (iI (c : Nat)) 0 = some (iI (c : Nat), ov mb (cM M c) σ) := by
  unfold b_X12_lend_204
  refine lp_for (n := c) (st := fun k => (ov mb (cM M k) σ, mb, iI (c : Nat), iI (k : Nat))) (fun k hk KK => ?_) (fun KK => ?_) N 0 (Nat.zero_le _) (by omega)
  · dsimp only
    have i120 : inB (iI (k : Nat)) 120 = true := inN (by omega) (by decide)
    have k120 : (iI (k : Nat)).toNatClampNeg = k := clN (by omega)
    unfold b_X12_lend_204_body
    rw [if_neg (fun w => by rw [jI_le (by omega) (by omega)] at w; omega)]
    simp only [oR_35, oR_36, oR_37, oR_38, oR_39, oR_40, oA_38, oA_39, oA_40, oS_35, oS_36, oS_37, i120, k120, if_true, Option.bind_some, lt_, jI_s, uL_v, Nat.reduceEqDiff, false_and, if_false]
    rfl
  · dsimp only
    unfold b_X12_lend_204_body
    rw [if_pos (by rw [jI_le (by omega) (by omega)]; omega)]
end LN
