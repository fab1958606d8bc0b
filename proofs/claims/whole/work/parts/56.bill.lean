/-! ===== bills: nets and taxes ===== -/
theorem ch2 {P : Nat → Nat → Nat → Prop} {n : Nat} (h : ∀ j, j < n → ∃ e t, P j e t) : ∃ E T : Nat → Nat, ∀ j, j < n → P j (E j) (T j) := by
  refine ⟨fun j => if g : j < n then Classical.choose (h j g) else 0, fun j => if g : j < n then Classical.choose (Classical.choose_spec (h j g)) else 0, fun j g => ?_⟩
  dsimp only
  rw [dif_pos g, dif_pos g]
  exact Classical.choose_spec (Classical.choose_spec (h j g))
def sN (g : Nat → Nat) : Nat → Nat
  | 0 => 0
  | n + 1 => sN g n + g n
def aB (p : Nat → Bool) : Nat → Bool
  | 0 => false
  | n + 1 => aB p n || p n
theorem sN_le {g : Nat → Nat} {b n : Nat} (h : ∀ j, j < n → g j ≤ b) : sN g n ≤ b * n := by
  induction n with
  | zero => exact Nat.zero_le _
  | succ n ih =>
    unfold sN
    have h1 := ih (fun j hj => h j (by omega))
    have h2 := h n (by omega)
    rw [Nat.mul_succ]
    omega
theorem aB_mono {p : Nat → Bool} {k n : Nat} (h : aB p k = true) (hk : k ≤ n) : aB p n = true := by
  induction n with
  | zero => have : k = 0 := by omega
            subst this; exact h
  | succ n ih =>
    by_cases e : k = n + 1
    · subst e; exact h
    · unfold aB; rw [ih (by omega)]; rfl
theorem lp_thr {α β : Type} {F : (α → Option β) → α → Option β} {n : Nat} {st : Nat → α} {p : Nat → Bool} {ex res : Option β} (hs : ∀ k, k < n → ∀ K : α → Option β, F K (st k) = if p k = true then ex else K (st (k + 1))) (he : ∀ K : α → Option β, F K (st n) = res) : ∀ (N k : Nat), k ≤ n → n < N + k → aB p k = false → lp F N (st k) = if aB p n = true then ex else res := by
  intro N
  induction N with
  | zero => intro k h1 h2; omega
  | succ N ih =>
    intro k h1 h2 h3
    rw [lp_s]
    by_cases h : k = n
    · subst h; rw [he, if_neg (by rw [h3]; decide)]
    · rw [hs k (by omega)]
      by_cases hp : p k = true
      · rw [if_pos hp, if_pos (aB_mono (k := k + 1) (by unfold aB; rw [hp]; cases aB p k <;> rfl) (by omega))]
      · rw [if_neg hp]
        refine ih (k + 1) (by omega) (by omega) ?_
        unfold aB
        rw [h3]
        cases hq : p k with
        | true => exact absurd hq hp
        | false => rfl
def fl (m : Int32) (x d : Nat) : Bool := decide (x % d ≠ 0 ∧ m = 110)
theorem rqR_fl {m : Int32} {x d : Nat} : rqR false m x d = if fl m x d = true then .inl 3 else .inr (iL (rq false m x d : Nat)) := by
  unfold rqR fl
  by_cases h : x % d ≠ 0 ∧ m = 110
  · rw [if_pos h, if_pos (decide_eq_true h)]
  · rw [if_neg h, if_neg (by rw [decide_eq_false h]; decide)]
/-- what a bill's lines are, on either side -/
def Bl (ni i lc cur : Nat) (by_ : Bool) (m : Int32) (E T : Nat → Nat) (K : KS) : Prop := (i < ni ∧ ni ≤ 20 ∧ lc ≤ 12 ∧ cur < 4 ∧ okM m = true) ∧ K.1 29 i 1 = iI (cur : Nat) ∧ K.1 29 i 2 = iI (lc : Nat) ∧ K.1 29 i 3 = bI by_ ∧ K.1 25 cur 1 = m ∧ ∀ j, j < lc → E j ≤ 9999999 * 999999 * 1000 ∧ T j ≤ 9999 ∧ K.2.1 30 i j = iL (E j : Nat) ∧ K.1 31 i j = iI (T j : Nat)
def Bm (i lc cur : Nat) (by_ : Bool) (m : Int32) (E T : Nat → Nat) (M : MS) : Prop := M.2.1 23 i = iI (cur : Nat) ∧ M.2.1 24 i = iI (lc : Nat) ∧ M.2.1 25 i = bI by_ ∧ M.2.1 11 cur = m ∧ ∀ j, j < lc → M.2.2 27 (12 * i + j) = iL (E j : Nat) ∧ M.2.1 28 (12 * i + j) = iI (T j : Nat)
theorem Bm.sd {i lc cur : Nat} {by_ : Bool} {m : Int32} {E T : Nat → Nat} {M M' : MS} (h : Bm i lc cur by_ m E T M) (hs : Sd M M') : Bm i lc cur by_ m E T M' := by
  unfold Bm at *
  rw [hs.2.1 23 (by decide) (by decide), hs.2.1 24 (by decide) (by decide), hs.2.1 25 (by decide) (by decide), hs.2.1 11 (by decide) (by decide), hs.2.1 28 (by decide) (by decide), hs.2.2]
  exact h
theorem bl_of {n ni : Nat} {A : AM} {K : KS} {M : MS} {σ : Sto} (hR : Rel n ni A K M σ) {i : Nat} (hi : i < ni) : ∃ lc cur by_ m E T, Bl ni i lc cur by_ m E T K ∧ Bm i lc cur by_ m E T M := by
  obtain ⟨-, -, hc, -, -, ⟨n1, n2, n3, n4, n5⟩, -⟩ := hR
  obtain ⟨-, d, cur, lc, by_, g1, g2, g3, g4, g5, g6, g7, g8, g9, g10, g11, g12⟩ := n5 i hi
  obtain ⟨dd, co, m, c1, c2, c3, c4, c5, c6, c7, c8, c9, c10⟩ := hc cur g2
  obtain ⟨E, T, hE⟩ := ch2 g12
  exact ⟨lc, cur, by_, m, E, T, ⟨⟨hi, n1, g3, g2, c2⟩, g6, g8, g10, c6, fun j hj => ⟨(hE j hj).1, (hE j hj).2.1, (hE j hj).2.2.1, (hE j hj).2.2.2.2.1⟩⟩, ⟨g7, g9, g11, c9, fun j hj => ⟨(hE j hj).2.2.2.1, (hE j hj).2.2.2.2.2⟩⟩⟩
def nG (m : Int32) (E : Nat → Nat) (j : Nat) : Nat := rq false m (E j) 1000000
def nF (m : Int32) (E : Nat → Nat) (j : Nat) : Bool := fl m (E j) 1000000
def netV (by_ : Bool) (m : Int32) (E : Nat → Nat) (lc : Nat) : Nat := if by_ = true then sN (nG m E) lc else rq false m (sN E lc) 1000000
def netP (by_ : Bool) (m : Int32) (E : Nat → Nat) (lc : Nat) : Bool := if by_ = true then aB (nF m E) lc else fl m (sN E lc) 1000000
def alk (T : Nat → Nat) (j v : Nat) : Bool := decide (T v = T j ∧ v < j)
def lik (E T : Nat → Nat) (j v : Nat) : Nat := if T v = T j then E v else 0
def taxV (by_ : Bool) (m : Int32) (E T : Nat → Nat) (lc j : Nat) : Nat := if by_ = true then rq false m (nG m E j * T j) 10000 else if aB (alk T j) lc = true ∨ T j = 0 then 0 else rq false m (sN (lik E T j) lc * T j) 10000000000
def taxP (by_ : Bool) (m : Int32) (E T : Nat → Nat) (lc j : Nat) : Bool := if by_ = true then nF m E j || fl m (nG m E j * T j) 10000 else if aB (alk T j) lc = true ∨ T j = 0 then false else fl m (sN (lik E T j) lc * T j) 10000000000
theorem netV_t {m : Int32} {E : Nat → Nat} {lc : Nat} : netV true m E lc = sN (nG m E) lc := rfl
theorem netV_f {m : Int32} {E : Nat → Nat} {lc : Nat} : netV false m E lc = rq false m (sN E lc) 1000000 := rfl
theorem netP_t {m : Int32} {E : Nat → Nat} {lc : Nat} : netP true m E lc = aB (nF m E) lc := rfl
theorem netP_f {m : Int32} {E : Nat → Nat} {lc : Nat} : netP false m E lc = fl m (sN E lc) 1000000 := rfl
theorem taxV_t {m : Int32} {E T : Nat → Nat} {lc j : Nat} : taxV true m E T lc j = rq false m (nG m E j * T j) 10000 := rfl
theorem taxV_f {m : Int32} {E T : Nat → Nat} {lc j : Nat} : taxV false m E T lc j = if aB (alk T j) lc = true ∨ T j = 0 then 0 else rq false m (sN (lik E T j) lc * T j) 10000000000 := rfl
theorem taxP_t {m : Int32} {E T : Nat → Nat} {lc j : Nat} : taxP true m E T lc j = (nF m E j || fl m (nG m E j * T j) 10000) := rfl
theorem taxP_f {m : Int32} {E T : Nat → Nat} {lc j : Nat} : taxP false m E T lc j = if aB (alk T j) lc = true ∨ T j = 0 then false else fl m (sN (lik E T j) lc * T j) 10000000000 := rfl
section BI
variable {mb ni i lc cur N : Nat} {by_ : Bool} {m : Int32} {E T : Nat → Nat} {A : AM} {W : WM} {K : KS} {M : MS} {σ : Sto}
theorem nG_le {j : Nat} (h : E j ≤ 9999999 * 999999 * 1000) : nG m E j ≤ 10000000000 := by
  unfold nG
  have := (rq_le false m (E j) 1000000).2
  omega
theorem x_modeOf (hG : Gk ni A W) (hB : Bl ni i lc cur by_ m E T K) : f_X11_modeOf (ovk A W K σ) (A 0 0) (A 29 i) = some m := by
  obtain ⟨⟨b1, b2', b3', b4, b5⟩, c1, c2, c3, c4, c5⟩ := hB
  unfold f_X11_modeOf
  rw [xR_0_2 hG, Option.bind_some, xI_29_1 hG b1, Option.bind_some, c1, xA_4 hG, inN b4 (by decide), if_pos rfl, clN (by omega), Option.bind_some, show rk A (K.2.2.1 4) 4 cur = some (A 25 cur) from if_pos b4, Option.bind_some, xI_25_1 hG b4, Option.bind_some, c4, if_pos (okM_c b5).2]
theorem x_lineNet (hG : Gk ni A W) (hB : Bl ni i lc cur by_ m E T K) {j : Nat} (hj : j < lc) : f_X2_lineNet (ovk A W K σ) (A 29 i) (iI (j : Nat)) m = some (if nF m E j = true then .inl 3 else .inr (iL (nG m E j : Nat))) := by
  obtain ⟨⟨b1, b2', b3', b4, b5⟩, c1, c2, c3, c4, c5⟩ := hB
  obtain ⟨e1, e2, e3, e4⟩ := c5 j hj
  unfold f_X2_lineNet
  rw [xR_29_4 hG b1, Option.bind_some, xA_30 hG b1, inN (show j < 12 by omega) (by decide), if_pos rfl, clN (by omega), Option.bind_some, e3, iL_lit 1000000, x_quotient b5 (by decide) (by omega) (by decide), Option.bind_some, rqR_fl]
  unfold nF nG
  by_cases h : fl m (E j) 1000000 = true
  · rw [if_pos h]; rfl
  · rw [if_neg h]; rfl
theorem x_netSum (hG : Gk ni A W) (hB : Bl ni i lc cur by_ m E T K) (hN : 100 ≤ N) : f_X2_netSum N (ovk A W K σ) (A 29 i) m = some (if netP by_ m E lc = true then .inl 3 else .inr (iL (netV by_ m E lc : Nat))) := by
  have hB0 := hB
  obtain ⟨⟨b1, b2', b3', b4, b5⟩, c1, c2, c3, c4, c5⟩ := hB
  have hs : sN E lc ≤ 9999999 * 999999 * 1000 * lc := sN_le (fun j hj => (c5 j hj).1)
  unfold f_X2_netSum b_X2_netSum_5
  cases by_ with
  | true =>
    have hz : ¬ K.1 29 i 3 = 0 := by rw [c3]; decide
    rw [netP_t, netV_t]
    refine (lp_thr (n := lc) (p := nF m E) (ex := some (.inl 3)) (res := some (.inr (iL (sN (nG m E) lc : Nat)))) (st := fun k => (ovk A W K σ, A 29 i, m, iL (sN (nG m E) k : Nat), iI (k : Nat))) (fun k hk KK => ?_) (fun KK => ?_) N 0 (Nat.zero_le _) (by omega) rfl).trans ?_
    · dsimp only
      unfold b_X2_netSum_5_body
      rw [xI_29_2 hG b1, Option.bind_some, c2, if_neg (fun w => by rw [jI_le (by omega) (by omega)] at w; omega), xI_29_3 hG b1, Option.bind_some, if_neg hz, xO_29 hG b1, Option.bind_some, x_lineNet hG hB0 hk, Option.bind_some]
      by_cases h : nF m E k = true
      · rw [if_pos h, if_pos h]; rfl
      · rw [if_neg h, if_neg h]
        unfold b_X2_netSum_39
        dsimp only [bs, lt_]
        rw [jI_s, jL_add]
        rfl
    · dsimp only
      unfold b_X2_netSum_5_body
      rw [xI_29_2 hG b1, Option.bind_some, c2, if_pos (by rw [jI_le (by omega) (by omega)]; omega), xI_29_3 hG b1, Option.bind_some, if_neg hz]
    · by_cases h : aB (nF m E) lc = true
      · rw [if_pos h, if_pos h]
      · rw [if_neg h, if_neg h]
  | false =>
    have hz : K.1 29 i 3 = 0 := by rw [c3]; rfl
    rw [netP_f, netV_f]
    refine lp_for (n := lc) (st := fun k => (ovk A W K σ, A 29 i, m, iL (sN E k : Nat), iI (k : Nat))) (fun k hk KK => ?_) (fun KK => ?_) N 0 (Nat.zero_le _) (by omega)
    · dsimp only
      unfold b_X2_netSum_5_body
      obtain ⟨e1, e2, e3, e4⟩ := c5 k hk
      rw [xI_29_2 hG b1, Option.bind_some, c2, if_neg (fun w => by rw [jI_le (by omega) (by omega)] at w; omega), xI_29_3 hG b1, Option.bind_some, if_pos hz, xR_29_4 hG b1, Option.bind_some, xA_30 hG b1, inN (show k < 12 by omega) (by decide), if_pos rfl, clN (by omega), Option.bind_some, e3]
      unfold b_X2_netSum_39
      dsimp only [lt_]
      rw [jI_s, jL_add]
      rfl
    · dsimp only
      unfold b_X2_netSum_5_body
      rw [xI_29_2 hG b1, Option.bind_some, c2, if_pos (by rw [jI_le (by omega) (by omega)]; omega), xI_29_3 hG b1, Option.bind_some, if_pos hz, iL_lit 1000000, x_quotient b5 (by decide) (by omega) (by decide), Option.bind_some, rqR_fl]
      by_cases h : fl m (sN E lc) 1000000 = true
      · rw [if_pos h]; rfl
      · rw [if_neg h]; rfl
theorem x_like (hG : Gk ni A W) (hB : Bl ni i lc cur by_ m E T K) (hN : 100 ≤ N) {j : Nat} (hj : j < lc) : f_X2_taxOfLikeLines N (ovk A W K σ) (A 29 i) (iI (j : Nat)) m = some (if aB (alk T j) lc = true then .inr 0 else rqR false m (sN (lik E T j) lc * T j) 10000000000) := by
  have hB0 := hB
  obtain ⟨⟨b1, b2', b3', b4, b5⟩, c1, c2, c3, c4, c5⟩ := hB
  have hs : sN (lik E T j) lc ≤ 9999999 * 999999 * 1000 * lc := sN_le (fun v hv => by
    unfold lik
    have := (c5 v hv).1
    split <;> omega)
  obtain ⟨e1, e2, e3, e4⟩ := c5 j hj
  have hx : sN (lik E T j) lc * T j ≤ 9999999 * 999999 * 1000 * 12 * 9999 := Nat.mul_le_mul (by omega) e2
  unfold f_X2_taxOfLikeLines b_X2_taxOfLikeLines_5
  have i12j : inB (iI (j : Nat)) 12 = true := inN (by omega) (by decide)
  have k12j : (iI (j : Nat)).toNatClampNeg = j := clN (by omega)
  refine (lp_thr (n := lc) (p := alk T j) (ex := some (.inr 0)) (res := some (rqR false m (sN (lik E T j) lc * T j) 10000000000)) (st := fun k => (ovk A W K σ, A 29 i, iI (j : Nat), m, iL (sN (lik E T j) k : Nat), iI (k : Nat))) (fun k hk KK => ?_) (fun KK => ?_) N 0 (Nat.zero_le _) (by omega) rfl).trans ?_
  · dsimp only
    obtain ⟨f1, f2, f3, f4⟩ := c5 k hk
    have i12 : inB (iI (k : Nat)) 12 = true := inN (by omega) (by decide)
    have k12 : (iI (k : Nat)).toNatClampNeg = k := clN (by omega)
    have ek : iI (T k : Nat) = iI (T j : Nat) ↔ T k = T j := jI_eq (by omega) (by omega)
    have el : iI (j : Nat) ≤ iI (k : Nat) ↔ j ≤ k := jI_le (by omega) (by omega)
    unfold b_X2_taxOfLikeLines_5_body b_X2_taxOfLikeLines_48
    rw [xI_29_2 hG b1, Option.bind_some, c2, if_neg (fun w => by rw [jI_le (by omega) (by omega)] at w; omega)]
    simp only [xR_29_5 hG b1, xR_29_4 hG b1, xA_31 hG b1, xA_30 hG b1, i12, k12, i12j, k12j, if_true, Option.bind_some, e4, f3, f4, lt_, jI_s]
    by_cases h : T k = T j
    · rw [if_pos (ek.mpr h)]
      by_cases h2 : j ≤ k
      · have : alk T j k = false := by unfold alk; exact decide_eq_false (by omega)
        rw [if_pos (el.mpr h2), if_neg (by rw [this]; decide), jL_add]
        show _ = KK (ovk A W K σ, A 29 i, iI (j : Nat), m, iL ((sN (lik E T j) k + lik E T j k : Nat) : Int), iI ((k + 1 : Nat) : Int))
        rw [show lik E T j k = E k from if_pos h]
      · have : alk T j k = true := by unfold alk; exact decide_eq_true (by omega)
        rw [if_neg (fun w => h2 (el.mp w)), if_pos this]
    · have : alk T j k = false := by unfold alk; exact decide_eq_false (by omega)
      rw [if_neg (fun w => h (ek.mp w)), if_neg (by rw [this]; decide)]
      show _ = KK (ovk A W K σ, A 29 i, iI (j : Nat), m, iL ((sN (lik E T j) k + lik E T j k : Nat) : Int), iI ((k + 1 : Nat) : Int))
      rw [show lik E T j k = 0 from if_neg h]
      rfl
  · dsimp only
    unfold b_X2_taxOfLikeLines_5_body
    rw [xI_29_2 hG b1, Option.bind_some, c2, if_pos (by rw [jI_le (by omega) (by omega)]; omega), xR_29_5 hG b1, Option.bind_some, xA_31 hG b1, i12j, if_pos rfl, k12j, Option.bind_some, e4, iL_lit 10000000000]
    have hm2 : sN (lik E T j) lc % 10000000000 * T j ≤ 10000000000 * 9999 := Nat.mul_le_mul (by omega) e2
    rw [x_partOf b5 (by decide) (by omega) (by decide) (by omega) (by omega) (by omega), Option.bind_some]
    cases rqR false m (sN (lik E T j) lc * T j) 10000000000 <;> rfl
  · by_cases h : aB (alk T j) lc = true
    · rw [if_pos h, if_pos h]
    · rw [if_neg h, if_neg h]
theorem x_taxSum (hG : Gk ni A W) (hB : Bl ni i lc cur by_ m E T K) (hN : 100 ≤ N) : f_X2_taxSum N (ovk A W K σ) (A 29 i) m = some (if aB (taxP by_ m E T lc) lc = true then .inl 3 else .inr (iL (sN (taxV by_ m E T lc) lc : Nat))) := by
  have hB0 := hB
  obtain ⟨⟨b1, b2', b3', b4, b5⟩, c1, c2, c3, c4, c5⟩ := hB
  unfold f_X2_taxSum b_X2_taxSum_5
  refine (lp_thr (n := lc) (p := taxP by_ m E T lc) (ex := some (.inl 3)) (res := some (.inr (iL (sN (taxV by_ m E T lc) lc : Nat)))) (st := fun k => (ovk A W K σ, A 29 i, m, iL (sN (taxV by_ m E T lc) k : Nat), iI (k : Nat))) (fun k hk KK => ?_) (fun KK => ?_) N 0 (Nat.zero_le _) (by omega) rfl).trans ?_
  · dsimp only
    obtain ⟨f1, f2, f3, f4⟩ := c5 k hk
    have i12 : inB (iI (k : Nat)) 12 = true := inN (by omega) (by decide)
    have k12 : (iI (k : Nat)).toNatClampNeg = k := clN (by omega)
    have g1 := nG_le (m := m) f1
    have g2 : nG m E k * T k ≤ 10000000000 * 9999 := Nat.mul_le_mul g1 f2
    unfold b_X2_taxSum_5_body b_X2_taxSum_39
    rw [xI_29_2 hG b1, Option.bind_some, c2, if_neg (fun w => by rw [jI_le (by omega) (by omega)] at w; omega), xI_29_3 hG b1, Option.bind_some, c3]
    show _ = if taxP by_ m E T lc k = true then some (.inl 3) else KK (ovk A W K σ, A 29 i, m, iL ((sN (taxV by_ m E T lc) k + taxV by_ m E T lc k : Nat) : Int), iI ((k + 1 : Nat) : Int))
    cases by_ with
    | true =>
      rw [if_neg (by decide), xO_29 hG b1, Option.bind_some]
      unfold f_X2_lineTax
      rw [xO_29 hG b1, Option.bind_some, x_lineNet hG hB0 hk, Option.bind_some]
      rw [taxP_t, taxV_t]
      by_cases h : nF m E k = true
      · rw [if_pos h, h]; rfl
      · rw [if_neg h]
        have h' : nF m E k = false := by cases hq : nF m E k <;> simp_all
        dsimp only [bs]
        rw [xR_29_5 hG b1, Option.bind_some, xA_31 hG b1, i12, if_pos rfl, k12, Option.bind_some, f4, iL_lit 10000]
        have g3 : nG m E k % 10000 * T k ≤ 10000 * 9999 := Nat.mul_le_mul (by omega) f2
        rw [x_partOf b5 (by decide) (by omega) (by decide) (by omega) (by omega) (by omega), Option.bind_some, rqR_fl, h', Bool.false_or]
        by_cases h3 : fl m (nG m E k * T k) 10000 = true
        · rw [if_pos h3, if_pos h3]; rfl
        · rw [if_neg h3, if_neg h3]
          dsimp only [Option.bind_some, lt_]
          rw [jI_s, jL_add]
    | false =>
      rw [if_pos (by decide), xO_29 hG b1, Option.bind_some, x_like hG hB0 hN hk, Option.bind_some]
      rw [taxP_f, taxV_f]
      by_cases h : aB (alk T k) lc = true
      · rw [if_pos h, if_pos (Or.inl h), if_pos (Or.inl h), if_neg (by decide)]
        dsimp only [bs, lt_]
        rw [jI_s, iL_lit 0, jL_add]
      · rw [if_neg h, rqR_fl]
        by_cases h0 : T k = 0
        · have e0 : fl m (sN (lik E T k) lc * T k) 10000000000 = false := by unfold fl; exact decide_eq_false (fun w => w.1 (by rw [h0, Nat.mul_zero]))
          have e1 : rq false m (sN (lik E T k) lc * T k) 10000000000 = 0 := by rw [rq_ex (by rw [h0, Nat.mul_zero]), h0, Nat.mul_zero]
          rw [if_pos (Or.inr h0), if_pos (Or.inr h0), if_neg (by rw [e0]; decide), if_neg (by decide), e1]
          dsimp only [bs, lt_]
          rw [jI_s, jL_add]
        · have hn : ¬ (aB (alk T k) lc = true ∨ T k = 0) := fun w => w.elim h h0
          rw [if_neg hn, if_neg hn]
          by_cases h3 : fl m (sN (lik E T k) lc * T k) 10000000000 = true
          · rw [if_pos h3, if_pos h3]; rfl
          · rw [if_neg h3, if_neg h3]
            dsimp only [bs, lt_]
            rw [jI_s, jL_add]
  · dsimp only
    unfold b_X2_taxSum_5_body
    rw [xI_29_2 hG b1, Option.bind_some, c2, if_pos (by rw [jI_le (by omega) (by omega)]; omega)]
  · by_cases h : aB (taxP by_ m E T lc) lc = true
    · rw [if_pos h, if_pos h]
    · rw [if_neg h, if_neg h]
end BI
