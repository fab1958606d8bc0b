/-! ===== how often a number divides; with which scale a quotient is exact ===== -/
def mu (p n : Nat) : Nat := if h : p < 2 ∨ n = 0 then 0 else if n % p = 0 then mu p (n / p) + 1 else 0
termination_by n
decreasing_by exact Nat.div_lt_self (by omega) (by omega)
theorem mu_s {p n : Nat} (hp : 2 ≤ p) (h : n ≠ 0) (h2 : n % p = 0) : mu p n = mu p (n / p) + 1 := by
  rw [mu, dif_neg (by omega), if_pos h2]
theorem mu_0 {p n : Nat} (h2 : n = 0 ∨ n % p ≠ 0) : mu p n = 0 := by
  rw [mu]
  by_cases h : p < 2 ∨ n = 0
  · rw [dif_pos h]
  · rw [dif_neg h, if_neg (by omega)]
theorem mu_z {p n : Nat} (h : mu p n ≠ 0) : n ≠ 0 ∧ n % p = 0 := by
  refine ⟨fun w => h (mu_0 (Or.inl w)), ?_⟩
  rcases Nat.eq_zero_or_pos (n % p) with w | w
  · exact w
  · exact absurd (mu_0 (Or.inr (by omega))) h
theorem mu_at {p : Nat} (hp : 2 ≤ p) (n j : Nat) (hj : j ≤ mu p n) : mu p n = j + mu p (n / p ^ j) ∧ p ^ j * (n / p ^ j) = n := by
  induction j with
  | zero => simp
  | succ j ih =>
    obtain ⟨i1, i2⟩ := ih (by omega)
    obtain ⟨h1, h2⟩ := mu_z (p := p) (n := n / p ^ j) (by omega)
    have h4 := mu_s hp h1 h2
    have h5 := Nat.div_add_mod (n / p ^ j) p
    rw [h2, Nat.add_zero] at h5
    rw [Nat.pow_succ, ← Nat.div_div_eq_div_mul]
    refine ⟨by omega, ?_⟩
    rw [Nat.mul_assoc, h5, i2]
theorem mu_in {p n j : Nat} (hp : 2 ≤ p) (hj : j < mu p n) : n / p ^ j ≠ 0 ∧ n / p ^ j % p = 0 := mu_z (by have := (mu_at hp n j (by omega)).1; omega)
theorem mu_end {p n : Nat} (hp : 2 ≤ p) (h : n ≠ 0) : n / p ^ mu p n ≠ 0 ∧ n / p ^ mu p n % p ≠ 0 := by
  obtain ⟨h1, h2⟩ := mu_at hp n (mu p n) (Nat.le_refl _)
  have h3 : n / p ^ mu p n ≠ 0 := fun w => h (by rw [← h2, w, Nat.mul_zero])
  refine ⟨h3, fun w => ?_⟩
  have := mu_s hp h3 w
  omega
/-- the parts of the reduced divisor: twos, fives, the rest -/
def dr (x y : Nat) : Nat := y / Nat.gcd x y
def aa (x y : Nat) : Nat := mu 2 (dr x y)
def bb (x y : Nat) : Nat := mu 5 (dr x y / 2 ^ aa x y)
def cc (x y : Nat) : Nat := dr x y / 2 ^ aa x y / 5 ^ bb x y
def kk (x y : Nat) : Nat := mx (aa x y) (bb x y)
theorem dr_pos {x y : Nat} (hy : 0 < y) : 0 < dr x y := Nat.div_pos (Nat.gcd_le_right x hy) (Nat.gcd_pos_of_pos_right x hy)
theorem dr_le (x y : Nat) : dr x y ≤ y := Nat.div_le_self _ _
theorem dr_fac {x y : Nat} (hy : 0 < y) : 2 ^ aa x y * (5 ^ bb x y * cc x y) = dr x y ∧ cc x y % 2 ≠ 0 ∧ cc x y % 5 ≠ 0 := by
  have hp := @dr_pos x y hy
  obtain ⟨h1, h2⟩ := mu_at (p := 2) (by decide) (dr x y) (mu 2 (dr x y)) (Nat.le_refl _)
  obtain ⟨h3, h4⟩ := mu_end (p := 2) (n := dr x y) (by decide) (by omega)
  obtain ⟨g1, g2⟩ := mu_at (p := 5) (by decide) (dr x y / 2 ^ mu 2 (dr x y)) (mu 5 (dr x y / 2 ^ mu 2 (dr x y))) (Nat.le_refl _)
  obtain ⟨g3, g4⟩ := mu_end (p := 5) (n := dr x y / 2 ^ mu 2 (dr x y)) (by decide) h3
  refine ⟨?_, ?_, g4⟩
  · show 2 ^ mu 2 (dr x y) * (5 ^ mu 5 (dr x y / 2 ^ mu 2 (dr x y)) * (dr x y / 2 ^ mu 2 (dr x y) / 5 ^ mu 5 (dr x y / 2 ^ mu 2 (dr x y)))) = dr x y
    rw [g2, h2]
  · intro w
    refine h4 ?_
    have w : dr x y / 2 ^ mu 2 (dr x y) / 5 ^ mu 5 (dr x y / 2 ^ mu 2 (dr x y)) % 2 = 0 := w
    rw [← g2, Nat.mul_mod, w, Nat.mul_zero, Nat.zero_mod]
theorem cop2 {c : Nat} (h : c % 2 ≠ 0) : Nat.Coprime 2 c := by
  show Nat.gcd 2 c = 1
  rw [Nat.gcd_rec, show c % 2 = 1 by omega]
  rfl
theorem cop5 {c : Nat} (h : c % 5 ≠ 0) : Nat.Coprime 5 c := by
  show Nat.gcd 5 c = 1
  rw [Nat.gcd_rec]
  have : c % 5 < 5 := Nat.mod_lt _ (by decide)
  rcases (show c % 5 = 1 ∨ c % 5 = 2 ∨ c % 5 = 3 ∨ c % 5 = 4 by omega) with e | e | e | e <;> rw [e] <;> rfl
theorem p10 (k : Nat) : 10 ^ k = 2 ^ k * 5 ^ k := by rw [← Nat.mul_pow]
theorem fac_iff {a b c k : Nat} (h2 : c % 2 ≠ 0) (h5 : c % 5 ≠ 0) : 2 ^ a * (5 ^ b * c) ∣ 10 ^ k ↔ c = 1 ∧ a ≤ k ∧ b ≤ k := by
  have c25 : Nat.Coprime 2 5 := by decide
  constructor
  · intro h
    have ha : 2 ^ a ∣ 10 ^ k := Nat.dvd_trans (Nat.dvd_mul_right _ _) h
    have hbc : 5 ^ b * c ∣ 10 ^ k := Nat.dvd_trans (Nat.dvd_mul_left _ _) h
    have hb : 5 ^ b ∣ 10 ^ k := Nat.dvd_trans (Nat.dvd_mul_right _ _) hbc
    have hc : c ∣ 10 ^ k := Nat.dvd_trans (Nat.dvd_mul_left _ _) hbc
    rw [p10] at ha hb hc
    have e1 : 2 ^ a ∣ 2 ^ k := (c25.pow a k).dvd_of_dvd_mul_right ha
    have e2 : 5 ^ b ∣ 5 ^ k := (c25.symm.pow b k).dvd_of_dvd_mul_left hb
    have e3 : c ∣ 2 ^ k := ((cop5 h5).symm.pow_right k).dvd_of_dvd_mul_right hc
    have e4 : c = 1 := ((cop2 h2).symm.pow_right k).eq_one_of_dvd e3
    exact ⟨e4, (Nat.pow_dvd_pow_iff_le_right (by decide)).mp e1, (Nat.pow_dvd_pow_iff_le_right (by decide)).mp e2⟩
  · rintro ⟨rfl, ha, hb⟩
    rw [Nat.mul_one, p10]
    exact Nat.mul_dvd_mul (Nat.pow_dvd_pow _ ha) (Nat.pow_dvd_pow _ hb)
theorem dvd_red {x y k : Nat} (hy : 0 < y) : y ∣ x * 10 ^ k ↔ dr x y ∣ 10 ^ k := by
  have hg : 0 < Nat.gcd x y := Nat.gcd_pos_of_pos_right x hy
  have cop : Nat.Coprime (x / Nat.gcd x y) (y / Nat.gcd x y) := Nat.coprime_div_gcd_div_gcd hg
  have e1 : Nat.gcd x y * (x / Nat.gcd x y) = x := Nat.mul_div_cancel' (Nat.gcd_dvd_left x y)
  have e2 : Nat.gcd x y * (y / Nat.gcd x y) = y := Nat.mul_div_cancel' (Nat.gcd_dvd_right x y)
  unfold dr
  generalize Nat.gcd x y = g at *
  generalize x / g = x' at *
  generalize y / g = y' at *
  subst e1
  subst e2
  rw [Nat.mul_assoc, Nat.mul_dvd_mul_iff_left hg]
  exact ⟨fun h => cop.symm.dvd_of_dvd_mul_left h, fun h => Nat.dvd_trans h (Nat.dvd_mul_left _ _)⟩
theorem exact_iff {x y k : Nat} (hy : 0 < y) : x * 10 ^ k % y = 0 ↔ cc x y = 1 ∧ kk x y ≤ k := by
  obtain ⟨h1, h2, h3⟩ := @dr_fac x y hy
  have m := mx_le (aa x y) (bb x y)
  rw [← Nat.dvd_iff_mod_eq_zero, dvd_red hy, ← h1, fac_iff h2 h3]
  unfold kk
  constructor
  · rintro ⟨a, b, c⟩
    exact ⟨a, by omega⟩
  · rintro ⟨a, b⟩
    exact ⟨a, by omega, by omega⟩
theorem kk_lt {x y : Nat} (hy : 0 < y) (hy2 : y ≤ 999999999999999999) : aa x y < 60 ∧ bb x y < 60 ∧ kk x y < 60 := by
  obtain ⟨h1, h2, h3⟩ := @dr_fac x y hy
  have hp := @dr_pos x y hy
  have hl := dr_le x y
  have m := mx_le (aa x y) (bb x y)
  have pa : 0 < 2 ^ aa x y := Nat.pow_pos (by decide)
  have pb : 0 < 5 ^ bb x y := Nat.pow_pos (by decide)
  have pc : 0 < cc x y := by omega
  have a1 : 2 ^ aa x y ≤ dr x y := by
    rw [← h1]
    exact Nat.le_mul_of_pos_right _ (Nat.mul_pos pb pc)
  have b1 : 5 ^ bb x y ≤ dr x y := by
    rw [← h1]
    exact Nat.le_trans (Nat.le_mul_of_pos_right _ pc) (Nat.le_mul_of_pos_left _ pa)
  have a2 : aa x y < 60 := by
    refine Nat.not_le.mp fun w => ?_
    have : 2 ^ 60 ≤ 2 ^ aa x y := Nat.pow_le_pow_right (by decide) w
    omega
  have b2 : bb x y < 60 := by
    refine Nat.not_le.mp fun w => ?_
    have : 5 ^ 60 ≤ 5 ^ bb x y := Nat.pow_le_pow_right (by decide) w
    omega
  unfold kk
  omega
/-! quotients of values -/
theorem lp_go {α β : Type} {F : (α → Option β) → α → Option β} {n : Nat} {Inv : Nat → α → Prop} {Post : Option β → Prop} (step : ∀ k a, k ≤ n → Inv k a → (∀ K : α → Option β, Post (F K a)) ∨ (k < n ∧ ∃ a', Inv (k + 1) a' ∧ ∀ K : α → Option β, F K a = K a')) : ∀ (N k : Nat) (a : α), k ≤ n → n < N + k → Inv k a → Post (lp F N a) := by
  intro N
  induction N with
  | zero => intro k a h1 h2; omega
  | succ N ih =>
    intro k a h1 h2 hI
    rw [lp_s]
    rcases step k a h1 hI with h | ⟨h, a', h3, h4⟩
    · exact h _
    · rw [h4]
      exact ih (k + 1) a' (by omega) (by omega) h3
def xr (u u' : Int) : Bool := ng u != ng u'
/-- a quotient of values, rounded to a scale -/
def spO (u s u' s' w : Int) (m : Int32) : Option (Int × Int) := if u' = 0 then none else spR (xr u u') m (u.natAbs * 10 ^ (w - s + s').toNat) (u'.natAbs * 10 ^ (-(w - s + s')).toNat) w
def nn (u u' : Int) : Bool := decide (sg u * sg u' < 0)
theorem nn_v {u u' : Int} (h : u' ≠ 0) : u = 0 ∨ nn u u' = xr u u' := by
  by_cases h0 : u = 0
  · exact Or.inl h0
  · right
    unfold nn xr ng
    rcases sg_v u with ⟨k, e⟩ | ⟨k, e⟩ | ⟨k, e⟩
    · exact absurd k h0
    · rcases sg_v u' with ⟨k', e'⟩ | ⟨k', e'⟩ | ⟨k', e'⟩
      · exact absurd k' h
      · rw [e, e', decide_eq_true k, decide_eq_true k']; rfl
      · rw [e, e', decide_eq_true k, decide_eq_false (show ¬ u' < 0 by omega)]; rfl
    · rcases sg_v u' with ⟨k', e'⟩ | ⟨k', e'⟩ | ⟨k', e'⟩
      · exact absurd k' h
      · rw [e, e', decide_eq_false (show ¬ u < 0 by omega), decide_eq_true k']; rfl
      · rw [e, e', decide_eq_false (show ¬ u < 0 by omega), decide_eq_false (show ¬ u' < 0 by omega)]; rfl
theorem sgn_0 (b : Bool) : sgn b 0 = 0 := by cases b <;> rfl
theorem spR_0 {b : Bool} {m : Int32} {y : Nat} {w : Int} : spR b m 0 y w = chk 0 w := by
  unfold spR
  rw [if_neg (fun q => q.1 (Nat.zero_mod _)), rq_ex (Nat.zero_mod _), Nat.zero_div, sgn_0]
theorem spR_nn {u u' : Int} {m : Int32} {e y : Nat} {w : Int} (h : u' ≠ 0) : spR (nn u u') m (u.natAbs * e) y w = spR (xr u u') m (u.natAbs * e) y w := by
  rcases nn_v (u := u) h with h0 | h0
  · rw [h0]
    show spR _ m (0 * e) y w = spR _ m (0 * e) y w
    rw [Nat.zero_mul, spR_0, spR_0]
  · rw [h0]
theorem pow_sq {P i : Nat} (h : i ≤ P) (x : Nat) : x * 10 ^ P = x * 10 ^ i * 10 ^ (P - i) := by
  rw [Nat.mul_assoc, ← Nat.pow_add, show i + (P - i) = P by omega]
theorem dv_s (x y i : Nat) (hy : 0 < y) : x * 10 ^ (i + 1) / y = x * 10 ^ i / y * 10 + x * 10 ^ i % y * 10 / y ∧ x * 10 ^ (i + 1) % y = x * 10 ^ i % y * 10 % y := by
  have e : x * 10 ^ (i + 1) = y * (x * 10 ^ i / y * 10) + x * 10 ^ i % y * 10 := by
    rw [Nat.pow_succ, ← Nat.mul_assoc, ← Nat.mul_assoc, ← Nat.add_mul, Nat.div_add_mod]
  rw [e, Nat.mul_add_div hy, Nat.mul_add_mod]
  exact ⟨rfl, rfl⟩
theorem big_q {x y i P : Nat} (h : 99999999999999999 < x * 10 ^ i / y) (hi : i < P) (hy : 0 < y) : 999999999999999999 < x * 10 ^ P / y := by
  have e : x * 10 ^ P = x * 10 ^ i * 10 ^ (P - i) := pow_sq (by omega) x
  have h1 : 10 ^ 1 ≤ 10 ^ (P - i) := Nat.pow_le_pow_right (by decide) (by omega)
  have h2 : x * 10 ^ i / y * y ≤ x * 10 ^ i := Nat.div_mul_le_self _ _
  have h3 : x * 10 ^ i / y * 10 ≤ x * 10 ^ P / y := by
    rw [Nat.le_div_iff_mul_le hy, e, Nat.mul_right_comm]
    exact Nat.mul_le_mul h2 h1
  omega
section XO
variable {σ : Sto} {sz p q N : Nat} {u s u' s' : Int}
theorem x_rest1 {τ : Sto} {a d c r : Nat} (h : Dv τ a d c r) (hr : r < d) (hd : d < 9223372036854775808) : f_X1_rest τ a = some (iI (rst r d : Nat)) := by
  unfold f_X1_rest
  rw [h.gr, h.gd, Option.bind_some, Option.bind_some, x_rest hr hd, Option.bind_some]
theorem x_over_fin {τ : Sto} {sz' a d c r X Y : Nat} {w : Int} {m : Int32} {b : Bool} {P i : Int32} {K : Sto × Nat × Int32 × Int32 × Int32 × Int32 × Nat × Int32 → Option ((Nat ⊕ Nat) × Sto × Nat)} (h : Dv τ a d c r) (hr : r < d) (hd : d < 9223372036854775808) (hc : c = X / Y) (hc2 : c < 9223372036854775807) (hx : rst r d = rst (X % Y) Y) (hm : okM m = true) (hw : -18 ≤ w ∧ w ≤ 36) (hP : P ≤ i) : b_X10_over_78_body N K τ sz' (iI w) m (bI b) P a i = vQ (spR b m X Y w) τ sz' := by
  unfold b_X10_over_78_body
  rw [if_pos hP, h.gc, Option.bind_some, h.io, Option.bind_some, x_rest1 h hr hd, Option.bind_some, hx, hc, x_settled hm (by omega), Option.bind_some]
  exact x_signedR (by omega) ⟨by omega, by omega⟩
theorem x_over_loop {τ : Sto} {sz' a x y P : Nat} {w : Int} {m : Int32} {b : Bool} (h : Dv τ a y (x / y) (x % y)) (ha : sz ≤ a) (hτ : ∀ c, c < sz → τ c = σ c) (hz : sz ≤ sz') (hx : x ≤ 999999999999999999) (hy : 0 < y) (hy2 : y ≤ 999999999999999999) (hm : okM m = true) (hw : -18 ≤ w ∧ w ≤ 36) (hP : P ≤ 200) (hN : 300 ≤ N) : VO (spR b m (x * 10 ^ P) y w) σ sz (b_X10_over_78 N τ sz' (iI w) m (bI b) (iI (P : Nat)) a 0) := by
  unfold b_X10_over_78
  rw [iI_lit 0]
  refine lp_go (n := P) (Inv := fun i e => ∃ τ1, e = (τ1, sz', iI w, m, bI b, iI (P : Nat), a, iI (i : Nat)) ∧ Dv τ1 a y (x * 10 ^ i / y) (x * 10 ^ i % y) ∧ (∀ c, c < sz → τ1 c = σ c) ∧ x * 10 ^ i / y ≤ 999999999999999999) (Post := VO (spR b m (x * 10 ^ P) y w) σ sz) ?_ N 0 _ (Nat.zero_le _) (by omega) ?_
  · rintro i _ hi ⟨τ1, rfl, i1, i2, i3⟩
    have hlt : x * 10 ^ i % y < y := Nat.mod_lt _ hy
    by_cases he : i = P
    · subst he
      left
      intro K
      dsimp only
      rw [x_over_fin i1 hlt (by omega) rfl (by omega) rfl hm hw (Int32.le_refl _)]
      exact VO.vQ i2 hz
    · have np : ¬ iI (P : Nat) ≤ iI (i : Nat) := fun q => by rw [jI_le (by omega) (by omega)] at q; omega
      rcases x_bring i1 hlt hy2 (by omega) with ⟨g1, g2⟩ | ⟨g1, τ2, g2, g3, g4⟩
      · left
        intro K
        dsimp only
        unfold b_X10_over_78_body
        rw [if_neg np, i1.io, Option.bind_some, g2]
        have hb := big_q g1 (show i < P by omega) hy
        have hq := rq_le b m (x * 10 ^ P) y
        have hn : spR b m (x * 10 ^ P) y w = none := by
          unfold spR
          by_cases h9 : x * 10 ^ P % y ≠ 0 ∧ m = 110
          · rw [if_pos h9]
          · rw [if_neg h9, chk_big]
            rw [sgn_abs]
            omega
        exact ⟨τ1, sz', i2, hz, Or.inl ⟨hn, rfl⟩⟩
      · right
        refine ⟨by omega, _, ⟨τ2, rfl, ?_, fun c hc => (g4 c (by omega)).trans (i2 c hc), ?_⟩, fun K => ?_⟩
        · rw [(dv_s x y i hy).1, (dv_s x y i hy).2]; exact g3
        · rw [(dv_s x y i hy).1]
          have : x * 10 ^ i % y * 10 / y < 10 := (Nat.div_lt_iff_lt_mul hy).mpr (by omega)
          omega
        · dsimp only
          unfold b_X10_over_78_body
          rw [if_neg np, i1.io, Option.bind_some, g2]
          show K (_, _, _, _, _, _, _, iI (i : Nat) + 1) = _
          rw [jI_s]
  · exact ⟨τ, rfl, by rw [Nat.pow_zero, Nat.mul_one]; exact h, hτ, by rw [Nat.pow_zero, Nat.mul_one]; exact Nat.le_trans (Nat.div_le_self _ _) hx⟩
theorem Val.lt (h : Val σ p u s) (hF : Fr σ sz) : p < sz := by
  obtain ⟨V, h1, -, -⟩ := h
  refine Nat.not_le.mp fun w => ?_
  rw [hF p w] at h1
  cases h1
theorem nO_lo {ci : Nat} {V : Nat → Value} {a : Nat} (h : a < sz) : nO σ sz ci V a = σ a := va_up_ne _ _ (by omega)
theorem x_byRaised {x y k : Nat} (hx : x ≤ 999999999999999999) (hy : 0 < y) (hy2 : y ≤ 999999999999999999) (hk : 0 < k) (hk2 : k ≤ 200) : ∃ τ d c r, f_X1_byRaised σ sz (iL (x : Nat)) (iL (y : Nat)) (iI (k : Nat)) = some (sz, τ, sz + 1) ∧ Dv τ sz d c r ∧ r < d ∧ d < 9223372036854775808 ∧ c = x / (y * 10 ^ k) ∧ rst r d = rst (x % (y * 10 ^ k)) (y * 10 ^ k) ∧ ∀ b, b ≠ sz → τ b = σ b := by
  have nk : ¬ iI (k : Nat) < 0 := fun q => by rw [iI_lit 0, jI_lt (by omega) (by omega)] at q; omega
  have hp := pow10_pos k
  have lo : ∀ τ : Sto, (∀ b, b ≠ sz → τ b = nO σ sz 1 dvX1 b) → ∀ b, b ≠ sz → τ b = σ b := fun τ h b hb => (h b hb).trans (va_up_ne _ _ hb)
  have lo2 : ∀ τ : Sto, (∀ b, b ≠ sz → τ b = σ b) → ∀ b, b ≠ sz → τ b = σ b := fun τ h => h
  have far : 2000000000000000000 < y * 10 ^ k → ∃ τ d c r, b_X1_byRaised_27 σ sz (iL (x : Nat)) = some (sz, τ, sz + 1) ∧ Dv τ sz d c r ∧ r < d ∧ d < 9223372036854775808 ∧ c = x / (y * 10 ^ k) ∧ rst r d = rst (x % (y * 10 ^ k)) (y * 10 ^ k) ∧ ∀ b, b ≠ sz → τ b = σ b := by
    intro hb
    obtain ⟨τ, a1, a2, a3⟩ := x_newD (σ := σ) (sz := sz) (x := x) (y := 2000000000000000001) (by omega) (by decide) (by decide)
    unfold b_X1_byRaised_27
    dsimp only [lt_]
    rw [iL_lit 2000000000000000001, a1]
    refine ⟨τ, _, _, _, rfl, a2, Nat.mod_lt _ (by decide), by decide, ?_, ?_, a3⟩
    · rw [Nat.div_eq_of_lt (by omega), Nat.div_eq_of_lt (by omega)]
    · rw [Nat.mod_eq_of_lt (by omega), Nat.mod_eq_of_lt (by omega)]
      have r1 := rst_v x 2000000000000000001
      have r2 := rst_v x (y * 10 ^ k)
      omega
  unfold f_X1_byRaised
  rw [if_neg nk]
  by_cases h18 : 18 < k
  · rw [if_pos (by rw [iI_lit 18, jI_lt (by omega) (by omega)]; exact h18)]
    refine far ?_
    have h2 : 10 ^ 19 ≤ 10 ^ k := Nat.pow_le_pow_right (by decide) (by omega)
    have h3 : 1 * 10 ^ k ≤ y * 10 ^ k := Nat.mul_le_mul_right _ hy
    omega
  · have p1 := pw18 (k := k) (by omega)
    rw [if_neg (fun q => by rw [iI_lit 18, jI_lt (by omega) (by omega)] at q; omega), pw_v (by omega), Option.bind_some, if_neg (fun q => by rw [iL_lit 0, jL_eq (by omega) (by omega)] at q; omega), iL_lit 2000000000000000000, jL_dv (by decide) (by omega)]
    have hd : 2000000000000000000 / 10 ^ k ≤ 2000000000000000000 := Nat.div_le_self _ _
    have iff : y ≤ 2000000000000000000 / 10 ^ k ↔ y * 10 ^ k ≤ 2000000000000000000 := Nat.le_div_iff_mul_le hp
    by_cases h1 : y * 10 ^ k ≤ 2000000000000000000
    · rw [if_pos (by rw [jL_le (by omega) (by omega)]; omega)]
      dsimp only [lt_]
      rw [Option.bind_some, jL_mul]
      have hq : 0 < y * 10 ^ k := Nat.mul_pos hy hp
      obtain ⟨τ, a1, a2, a3⟩ := x_newD (σ := σ) (sz := sz) (x := x) (y := y * 10 ^ k) (by omega) hq (by omega)
      rw [a1]
      exact ⟨τ, _, _, _, rfl, a2, Nat.mod_lt _ hq, by omega, rfl, rfl, a3⟩
    · rw [if_neg (fun q => by rw [jL_le (by omega) (by omega)] at q; omega)]
      exact far (by omega)
theorem x_over {w : Int} {m : Int32} (h : Val σ p u s) (h' : Val σ q u' s') (hr : RgV u s) (hr' : RgV u' s') (hF : Fr σ sz) (hw : -18 ≤ w ∧ w ≤ 36) (hm : okM m = true) (hN : 300 ≤ N) : VO (spO u s u' s' w m) σ sz (f_X10_over N σ sz p q (iI w) m) := by
  have ⟨r1, r2, r3, r4⟩ := hr
  have ⟨t1, t2, t3, t4⟩ := hr'
  have hp := h.lt hF
  have hq := h'.lt hF
  have g1 := sg_v u
  have g2 := sg_v u'
  unfold f_X10_over spO f_X10_checkDivisor
  rw [h'.io, Option.bind_some, h'.u]
  by_cases h0 : u' = 0
  · simp only [Option.bind_some]
    rw [if_pos h0, if_pos (show iL u' = 0 by rw [h0]; rfl)]
    exact ⟨σ, sz, fun _ _ => rfl, Nat.le_refl _, Or.inl ⟨rfl, rfl⟩⟩
  simp only [Option.bind_some]
  rw [if_neg h0, if_neg (show ¬ iL u' = 0 from fun q => h0 (by rw [iL_lit 0, iL_eq ⟨by omega, by omega⟩ ⟨by decide, by decide⟩] at q; exact q))]
  simp only [Option.bind_some, bs]
  rw [h.io, Option.bind_some, x_sign h hr, Option.bind_some, x_sign h' hr', Option.bind_some, iI_mul]
  have hs : -1 ≤ sg u * sg u' ∧ sg u * sg u' ≤ 1 := by
    rcases g1 with ⟨k, e⟩ | ⟨k, e⟩ | ⟨k, e⟩ <;> rcases g2 with ⟨k', e'⟩ | ⟨k', e'⟩ | ⟨k', e'⟩ <;> rw [e, e'] <;> decide
  have ei : (if (0 : Int32) ≤ iI (sg u * sg u') then b_X10_over_21 N σ sz p q (iI w) m 0 else b_X10_over_21 N σ sz p q (iI w) m 1) = b_X10_over_21 N σ sz p q (iI w) m (bI (nn u u')) := by
    unfold nn
    by_cases hn : sg u * sg u' < 0
    · rw [if_neg (fun q => by rw [iI_lit 0, iI_le ⟨by decide, by decide⟩ ⟨by omega, by omega⟩] at q; omega), decide_eq_true hn]; rfl
    · rw [if_pos (by rw [iI_lit 0, iI_le ⟨by decide, by decide⟩ ⟨by omega, by omega⟩]; omega), decide_eq_false hn]; rfl
  rw [ei, ← spR_nn h0]
  unfold b_X10_over_21
  rw [h.s, h'.s, Option.bind_some, Option.bind_some, iI_sub, iI_add]
  dsimp only [lt_]
  by_cases hP : 0 ≤ w - s + s'
  · rw [if_pos (show (0 : Int32) ≤ iI (w - s + s') by rw [iI_lit 0, iI_le ⟨by decide, by decide⟩ ⟨by omega, by omega⟩]; exact hP)]
    have e1 := h.of (σ' := nO σ sz 1 dvX1) (nO_lo hp)
    have e2 := h'.of (σ' := nO σ sz 1 dvX1) (nO_lo hq)
    obtain ⟨P, hPe⟩ : ∃ P : Nat, w - s + s' = P := ⟨(w - s + s').toNat, by omega⟩
    obtain ⟨τ, a1, a2, a3⟩ := x_newD (σ := σ) (sz := sz) (x := u.natAbs) (y := u'.natAbs) (by omega) (by omega) (by omega)
    rw [e1.io, Option.bind_some, x_size e1 hr, Option.bind_some, e2.io, Option.bind_some, x_size e2 hr', Option.bind_some, a1]
    rw [hPe, Int.toNat_natCast, show (-(P : Int)).toNat = 0 by omega, Nat.pow_zero, Nat.mul_one]
    exact x_over_loop a2 (Nat.le_refl _) (fun c hc => a3 c (by omega)) (by omega) (by omega) (by omega) (by omega) hm hw (by omega) hN
  · rw [if_neg (show ¬ (0 : Int32) ≤ iI (w - s + s') from fun q => hP (by rw [iI_lit 0, iI_le ⟨by decide, by decide⟩ ⟨by omega, by omega⟩] at q; exact q))]
    obtain ⟨k, hk⟩ : ∃ k : Nat, -(w - s + s') = k := ⟨(-(w - s + s')).toNat, by omega⟩
    rw [h.io, Option.bind_some, x_size h hr, Option.bind_some, h'.io, Option.bind_some, x_size h' hr', Option.bind_some, iI_neg, hk]
    obtain ⟨τ, d, c, r, a1, a2, a3, a4, a5, a6, a7⟩ := x_byRaised (σ := σ) (sz := sz) (x := u.natAbs) (y := u'.natAbs) (k := k) (by omega) (by omega) (by omega) (by omega) (by omega)
    rw [a1, Int.toNat_natCast, show (w - s + s').toNat = 0 by omega, Nat.pow_zero, Nat.mul_one]
    have hc : c ≤ u.natAbs := by rw [a5]; exact Nat.div_le_self _ _
    show VO _ σ sz (b_X10_over_73 N τ (sz + 1) (iI w) m (bI (nn u u')) (iI (w - s + s')) sz)
    unfold b_X10_over_73 b_X10_over_78
    obtain ⟨N', rfl⟩ : ∃ N', N = N' + 1 := ⟨N - 1, by omega⟩
    rw [lp_s]
    dsimp only
    rw [x_over_fin a2 a3 a4 a5 (by omega) a6 hm hw (by rw [iI_lit 0, iI_le ⟨by omega, by omega⟩ ⟨by decide, by decide⟩]; omega)]
    exact VO.vQ (fun b hb => a7 b (by omega)) (by omega)
/-- the exact quotient -/
def spE (u s u' s' : Int) : Option (Int × Int) := if u' = 0 then none else if cc u.natAbs u'.natAbs = 1 then chk (sgn (xr u u') (u.natAbs * 10 ^ kk u.natAbs u'.natAbs / u'.natAbs)) (s - s' + (kk u.natAbs u'.natAbs : Nat)) else none
theorem chk_nn {u u' : Int} {e y : Nat} {w : Int} (h : u' ≠ 0) : chk (sgn (nn u u') (u.natAbs * e / y)) w = chk (sgn (xr u u') (u.natAbs * e / y)) w := by
  rcases nn_v (u := u) h with h0 | h0
  · rw [h0]
    show chk (sgn _ (0 * e / y)) w = chk (sgn _ (0 * e / y)) w
    rw [Nat.zero_mul, Nat.zero_div, sgn_0, sgn_0]
  · rw [h0]
theorem x_exactlyOver (h : Val σ p u s) (h' : Val σ q u' s') (hr : RgV u s) (hr' : RgV u' s') (hF : Fr σ sz) (hN : 300 ≤ N) : VO (spE u s u' s') σ sz (f_X10_exactlyOver N σ sz p q) := by
  have ⟨r1, r2, r3, r4⟩ := hr
  have ⟨t1, t2, t3, t4⟩ := hr'
  have hp := h.lt hF
  have hq := h'.lt hF
  have g1 := sg_v u
  have g2 := sg_v u'
  unfold f_X10_exactlyOver spE f_X10_checkDivisor
  rw [h'.io, Option.bind_some, h'.u]
  by_cases h0 : u' = 0
  · simp only [Option.bind_some]
    rw [if_pos h0, if_pos (show iL u' = 0 by rw [h0]; rfl)]
    exact ⟨σ, sz, fun _ _ => rfl, Nat.le_refl _, Or.inl ⟨rfl, rfl⟩⟩
  simp only [Option.bind_some]
  rw [if_neg h0, if_neg (show ¬ iL u' = 0 from fun q => h0 (by rw [iL_lit 0, iL_eq ⟨by omega, by omega⟩ ⟨by decide, by decide⟩] at q; exact q))]
  simp only [Option.bind_some, bs, lt_]
  have e1 := h.of (σ' := nO σ sz 1 dvX1) (nO_lo hp)
  have e2 := h'.of (σ' := nO σ sz 1 dvX1) (nO_lo hq)
  have hy : 0 < u'.natAbs := by omega
  obtain ⟨τ, a1, a2, a3⟩ := x_newD (σ := σ) (sz := sz) (x := u.natAbs) (y := u'.natAbs) (by omega) hy (by omega)
  rw [e1.io, Option.bind_some, x_size e1 hr, Option.bind_some, e2.io, Option.bind_some, x_size e2 hr', Option.bind_some, a1]
  rw [← chk_nn h0]
  have hs : -1 ≤ sg u * sg u' ∧ sg u * sg u' ≤ 1 := by
    rcases g1 with ⟨k, e⟩ | ⟨k, e⟩ | ⟨k, e⟩ <;> rcases g2 with ⟨k', e'⟩ | ⟨k', e'⟩ | ⟨k', e'⟩ <;> rw [e, e'] <;> decide
  have kl := kk_lt (x := u.natAbs) hy (by omega)
  have fin : ∀ (τ1 : Sto) (i : Nat), Dv τ1 sz u'.natAbs (u.natAbs * 10 ^ i / u'.natAbs) (u.natAbs * 10 ^ i % u'.natAbs) → (∀ c, c < sz → τ1 c = σ c) → u.natAbs * 10 ^ i / u'.natAbs ≤ 999999999999999999 → i ≤ 60 → (cc u.natAbs u'.natAbs = 1 → i = kk u.natAbs u'.natAbs) → VO (if cc u.natAbs u'.natAbs = 1 then chk (sgn (nn u u') (u.natAbs * 10 ^ kk u.natAbs u'.natAbs / u'.natAbs)) (s - s' + (kk u.natAbs u'.natAbs : Nat)) else none) σ sz (b_X10_exactlyOver_47 N τ1 (sz + 1) p q sz (iI (i : Nat))) := by
    intro τ1 i d1 d2 d3 d4 d5
    have v1 := h.of (d2 p hp)
    have v2 := h'.of (d2 q hq)
    have hm := exact_iff (x := u.natAbs) (k := i) hy
    have hl : u.natAbs * 10 ^ i % u'.natAbs < u'.natAbs := Nat.mod_lt _ hy
    unfold b_X10_exactlyOver_47
    rw [d1.gr, Option.bind_some]
    by_cases hc : cc u.natAbs u'.natAbs = 1
    · have ei := d5 hc
      rw [if_pos hc, ← ei, if_pos (show iL ((u.natAbs * 10 ^ i % u'.natAbs : Nat) : Int) = 0 by rw [hm.mpr ⟨hc, by omega⟩]; rfl)]
      rw [v1.io, Option.bind_some, x_sign v1 hr, Option.bind_some, v2.io, Option.bind_some, x_sign v2 hr', Option.bind_some, iI_mul]
      have key : ∀ b : Bool, b_X10_exactlyOver_83 N τ1 (sz + 1) p q sz (iI (i : Nat)) (bI b) = vQ (chk (sgn b (u.natAbs * 10 ^ i / u'.natAbs)) (s - s' + (i : Nat))) τ1 (sz + 1) := by
        intro b
        unfold b_X10_exactlyOver_83
        rw [d1.gc, Option.bind_some, v1.s, Option.bind_some, v2.s, Option.bind_some, iI_sub, iI_add, x_signed (by omega) ⟨by omega, by omega⟩]
        exact vQ_id
      have ef : (if (0 : Int32) ≤ iI (sg u * sg u') then b_X10_exactlyOver_83 N τ1 (sz + 1) p q sz (iI (i : Nat)) 0 else b_X10_exactlyOver_83 N τ1 (sz + 1) p q sz (iI (i : Nat)) 1) = b_X10_exactlyOver_83 N τ1 (sz + 1) p q sz (iI (i : Nat)) (bI (nn u u')) := by
        unfold nn
        by_cases hn : sg u * sg u' < 0
        · rw [if_neg (fun q => by rw [iI_lit 0, iI_le ⟨by decide, by decide⟩ ⟨by omega, by omega⟩] at q; omega), decide_eq_true hn]; rfl
        · rw [if_pos (by rw [iI_lit 0, iI_le ⟨by decide, by decide⟩ ⟨by omega, by omega⟩]; omega), decide_eq_false hn]; rfl
      rw [ef, key]
      exact VO.vQ d2 (by omega)
    · rw [if_neg hc, if_neg (fun w => by rw [iL_lit 0, jL_eq (by omega) (by omega)] at w; exact hc (hm.mp w).1)]
      exact ⟨τ1, sz + 1, d2, by omega, Or.inl ⟨rfl, rfl⟩⟩
  show VO _ σ sz (b_X10_exactlyOver_22 N τ (sz + 1) p q sz 0)
  unfold b_X10_exactlyOver_22
  rw [iI_lit 0]
  refine lp_go (n := if cc u.natAbs u'.natAbs = 1 then kk u.natAbs u'.natAbs else 60) (Inv := fun i e => ∃ τ1, e = (τ1, sz + 1, p, q, sz, iI (i : Nat)) ∧ Dv τ1 sz u'.natAbs (u.natAbs * 10 ^ i / u'.natAbs) (u.natAbs * 10 ^ i % u'.natAbs) ∧ (∀ c, c < sz → τ1 c = σ c) ∧ u.natAbs * 10 ^ i / u'.natAbs ≤ 999999999999999999) ?_ N 0 _ (Nat.zero_le _) ?_ ?_
  · rintro i _ hi ⟨τ1, rfl, i1, i2, i3⟩
    have hlt : u.natAbs * 10 ^ i % u'.natAbs < u'.natAbs := Nat.mod_lt _ hy
    have hm := exact_iff (x := u.natAbs) (k := i) hy
    by_cases he : i = if cc u.natAbs u'.natAbs = 1 then kk u.natAbs u'.natAbs else 60
    · left
      intro K
      dsimp only
      unfold b_X10_exactlyOver_22_body
      have hi60 : i ≤ 60 := by
        rw [he]
        by_cases hc : cc u.natAbs u'.natAbs = 1
        · rw [if_pos hc]; omega
        · rw [if_neg hc]; omega
      have hf := fin τ1 i i1 i2 i3 hi60 (fun hc => by rw [he, if_pos hc])
      by_cases h60 : 60 ≤ i
      · rw [if_pos (show (60 : Int32) ≤ iI (i : Nat) by rw [iI_lit 60, jI_le (by omega) (by omega)]; exact h60)]
        exact hf
      · have hc : cc u.natAbs u'.natAbs = 1 := by
          refine Classical.byContradiction fun hc => ?_
          rw [if_neg hc] at he
          omega
        rw [if_pos hc] at he
        rw [if_neg (show ¬ (60 : Int32) ≤ iI (i : Nat) from fun w => h60 (by rw [iI_lit 60, jI_le (by omega) (by omega)] at w; exact w)), i1.gr, Option.bind_some, if_pos (show iL ((u.natAbs * 10 ^ i % u'.natAbs : Nat) : Int) = 0 by rw [hm.mpr ⟨hc, by omega⟩]; rfl)]
        exact hf
    · have hi2 : i < if cc u.natAbs u'.natAbs = 1 then kk u.natAbs u'.natAbs else 60 := by omega
      have hi60 : i < 60 := by
        by_cases hc : cc u.natAbs u'.natAbs = 1
        · rw [if_pos hc] at hi2; omega
        · rw [if_neg hc] at hi2; omega
      have nz : ¬ u.natAbs * 10 ^ i % u'.natAbs = 0 := by
        intro w
        have hw := hm.mp w
        rw [if_pos hw.1] at hi2
        omega
      have c1 : ¬ (60 : Int32) ≤ iI (i : Nat) := fun w => by rw [iI_lit 60, jI_le (by omega) (by omega)] at w; omega
      have c2 : ¬ iL ((u.natAbs * 10 ^ i % u'.natAbs : Nat) : Int) = 0 := fun w => by rw [iL_lit 0, jL_eq (by omega) (by omega)] at w; exact nz w
      rcases x_bring i1 hlt (by omega) (by omega) with ⟨k1, k2⟩ | ⟨k1, τ2, k2, k3, k4⟩
      · left
        intro K
        dsimp only
        unfold b_X10_exactlyOver_22_body
        rw [if_neg c1, i1.gr, Option.bind_some, if_neg c2, i1.io, Option.bind_some, k2]
        refine ⟨τ1, sz + 1, i2, by omega, Or.inl ⟨?_, rfl⟩⟩
        by_cases hc : cc u.natAbs u'.natAbs = 1
        · rw [if_pos hc] at hi2
          rw [if_pos hc, chk_big]
          rw [sgn_abs]
          exact big_q k1 hi2 hy
        · rw [if_neg hc]
      · right
        refine ⟨hi2, _, ⟨τ2, rfl, ?_, fun c hc => (k4 c (by omega)).trans (i2 c hc), ?_⟩, fun K => ?_⟩
        · rw [(dv_s u.natAbs u'.natAbs i hy).1, (dv_s u.natAbs u'.natAbs i hy).2]; exact k3
        · rw [(dv_s u.natAbs u'.natAbs i hy).1]
          have : u.natAbs * 10 ^ i % u'.natAbs * 10 / u'.natAbs < 10 := (Nat.div_lt_iff_lt_mul hy).mpr (by omega)
          omega
        · dsimp only
          unfold b_X10_exactlyOver_22_body
          rw [if_neg c1, i1.gr, Option.bind_some, if_neg c2, i1.io, Option.bind_some, k2]
          show K (_, _, _, _, _, iI (i : Nat) + 1) = _
          rw [jI_s]
  · by_cases hc : cc u.natAbs u'.natAbs = 1
    · rw [if_pos hc]; omega
    · rw [if_neg hc]; omega
  · exact ⟨τ, rfl, by rw [Nat.pow_zero, Nat.mul_one]; exact a2, fun c hc => a3 c (by omega), by rw [Nat.pow_zero, Nat.mul_one]; exact Nat.le_trans (Nat.div_le_self _ _) (by omega)⟩
end XO
