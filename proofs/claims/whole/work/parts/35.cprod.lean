/-! ===== products of the class, shifted and rounded ===== -/
def Pr (σ : Sto) (a : Nat) (h l : Nat) : Prop := ∃ V, σ a = some (.inl (5, V)) ∧ V 0 = .long (iL (h : Nat)) ∧ V 1 = .long (iL (l : Nat))
theorem Pr.io {σ : Sto} {a h l : Nat} (p : Pr σ a h l) : isO σ a 5 = some () := by
  obtain ⟨V, h1, h2, h3⟩ := p
  unfold isO
  rw [h1]
  rfl
theorem Pr.hi {σ : Sto} {a h l : Nat} (p : Pr σ a h l) : gL σ a 5 0 = some (iL (h : Nat)) := by
  obtain ⟨V, h1, h2, h3⟩ := p
  unfold gL oF
  rw [h1]
  simp [h2]
theorem Pr.lo {σ : Sto} {a h l : Nat} (p : Pr σ a h l) : gL σ a 5 1 = some (iL (l : Nat)) := by
  obtain ⟨V, h1, h2, h3⟩ := p
  unfold gL oF
  rw [h1]
  simp [h3]
theorem prod_split (a b : Nat) (ha : a ≤ 999999999999999999) (hb : b ≤ 999999999999999999) :
    a / 1000000000 * (b % 1000000000) + a % 1000000000 * (b / 1000000000) < 2000000000000000000 ∧
    (a / 1000000000 * (b % 1000000000) + a % 1000000000 * (b / 1000000000)) % 1000000000 * 1000000000 + a % 1000000000 * (b % 1000000000) < 2000000000000000000 ∧
    a / 1000000000 * (b / 1000000000) < 1000000000000000000 ∧
    a / 1000000000 * (b / 1000000000) + (a / 1000000000 * (b % 1000000000) + a % 1000000000 * (b / 1000000000)) / 1000000000 + ((a / 1000000000 * (b % 1000000000) + a % 1000000000 * (b / 1000000000)) % 1000000000 * 1000000000 + a % 1000000000 * (b % 1000000000)) / 1000000000000000000 = a * b / 1000000000000000000 ∧
    ((a / 1000000000 * (b % 1000000000) + a % 1000000000 * (b / 1000000000)) % 1000000000 * 1000000000 + a % 1000000000 * (b % 1000000000)) % 1000000000000000000 = a * b % 1000000000000000000 := by
  have ea := Nat.div_add_mod a 1000000000
  have eb := Nat.div_add_mod b 1000000000
  have a1 : a / 1000000000 ≤ 999999999 := by omega
  have b1 : b / 1000000000 ≤ 999999999 := by omega
  have a0 : a % 1000000000 ≤ 999999999 := by omega
  have b0 : b % 1000000000 ≤ 999999999 := by omega
  have e : a * b = 1000000000 * 1000000000 * (a / 1000000000 * (b / 1000000000)) + 1000000000 * (a / 1000000000 * (b % 1000000000)) + (1000000000 * (a % 1000000000 * (b / 1000000000)) + a % 1000000000 * (b % 1000000000)) := by
    conv => lhs; rw [← ea, ← eb]
    rw [Nat.add_mul, Nat.mul_add, Nat.mul_add, Nat.mul_mul_mul_comm, Nat.mul_assoc 1000000000 (a / 1000000000) (b % 1000000000), Nat.mul_left_comm (a % 1000000000) 1000000000 (b / 1000000000)]
  have m11 : a / 1000000000 * (b / 1000000000) ≤ 999999999 * 999999999 := Nat.mul_le_mul a1 b1
  have m10 : a / 1000000000 * (b % 1000000000) ≤ 999999999 * 999999999 := Nat.mul_le_mul a1 b0
  have m01 : a % 1000000000 * (b / 1000000000) ≤ 999999999 * 999999999 := Nat.mul_le_mul a0 b1
  have m00 : a % 1000000000 * (b % 1000000000) ≤ 999999999 * 999999999 := Nat.mul_le_mul a0 b0
  generalize a / 1000000000 * (b / 1000000000) = p11 at *
  generalize a / 1000000000 * (b % 1000000000) = p10 at *
  generalize a % 1000000000 * (b / 1000000000) = p01 at *
  generalize a % 1000000000 * (b % 1000000000) = p00 at *
  generalize a * b = P at *
  omega
theorem x_newP {σ : Sto} {sz a b : Nat} (ha : a ≤ 999999999999999999) (hb : b ≤ 999999999999999999) : ∃ τ, f_X5_init (nO σ sz 5 dvX5) sz (iL (a : Nat)) (iL (b : Nat)) = some ((), τ) ∧ Pr τ sz (a * b / 1000000000000000000) (a * b % 1000000000000000000) ∧ ∀ c, c ≠ sz → τ c = σ c := by
  obtain ⟨s1, s2, s3, s4, s5⟩ := prod_split a b ha hb
  unfold f_X5_init
  dsimp only [lt_]
  rw [iL_lit 1000000000, iL_lit 1000000000000000000]
  rw [jL_md (a := a) (by omega) (by decide), jL_md (a := b) (by omega) (by decide), jL_dv (a := a) (by omega) (by decide), jL_dv (a := b) (by omega) (by decide)]
  rw [jL_mul (a / 1000000000) (b % 1000000000), jL_mul (a % 1000000000) (b / 1000000000), jL_add, jL_md (by omega) (by decide), jL_dv (a := a / 1000000000 * (b % 1000000000) + a % 1000000000 * (b / 1000000000)) (by omega) (by decide)]
  rw [jL_mul ((a / 1000000000 * (b % 1000000000) + a % 1000000000 * (b / 1000000000)) % 1000000000) 1000000000, jL_mul (a % 1000000000) (b % 1000000000), jL_mul (a / 1000000000) (b / 1000000000), jL_add, jL_add, jL_md (by omega) (by decide), jL_dv (by omega) (by decide), jL_add, s4, s5]
  unfold nO pF
  simp only [va_up_self, va_up_2, if_true, Option.bind_some]
  refine ⟨_, rfl, ⟨_, va_up_self _ _ _, ?_, ?_⟩, fun c hc => va_up_ne _ _ hc⟩
  · rw [va_up_ne _ _ (by decide), va_up_self]
  · rw [va_up_self]
/-- money changed: a product, so many places further, rounded; 3 where it is refused -/
def spX (x : Nat) (P : Int) (m : Int32) : Nat ⊕ Int64 := if (x * 10 ^ P.toNat) % 10 ^ (-P).toNat ≠ 0 ∧ m = 110 ∨ 999999999999999999 < rq false m (x * 10 ^ P.toNat) (10 ^ (-P).toNat) then .inl 3 else .inr (iL (rq false m (x * 10 ^ P.toNat) (10 ^ (-P).toNat) : Nat))
section XP
variable {σ : Sto} {a h l : Nat}
theorem rst_k {h p l E : Nat} (hp : p % 2 = 0) (hp0 : 2 ≤ p) (hl : l < E) (hh : h < p) : rst (h * E + l) (p * E) = if (rst h p = 0 ∨ rst h p = 2) ∧ l ≠ 0 then rst h p + 1 else rst h p := by
  have v1 := rst_v h p
  have v2 := rst_v (h * E + l) (p * E)
  have hE : 0 < E := by omega
  have k1 : h + h + 2 ≤ p → (h + h + 2) * E ≤ p * E := fun w => Nat.mul_le_mul_right _ w
  have k2 : p + 2 ≤ h + h → (p + 2) * E ≤ (h + h) * E := fun w => Nat.mul_le_mul_right _ w
  have k3 : h + h = p → (h + h) * E = p * E := fun w => by rw [w]
  have k4 : h = 0 → h * E = 0 := fun w => by rw [w, Nat.zero_mul]
  have k5 : h ≠ 0 → E ≤ h * E := fun w => Nat.le_mul_of_pos_left _ (by omega)
  rw [Nat.add_mul, Nat.add_mul] at k1 k2
  rw [Nat.add_mul] at k3
  generalize h * E = H at *
  generalize p * E = PE at *
  by_cases hc : (rst h p = 0 ∨ rst h p = 2) ∧ l ≠ 0
  · rw [if_pos hc]; omega
  · rw [if_neg hc]; omega
theorem mul_add_dm {E : Nat} (x y k : Nat) (hE : 0 < E) (hy : y < E) : (x * E + y) / (k * E) = x / k ∧ (x * E + y) % (k * E) = x % k * E + y := by
  have e1 : (x * E + y) / (k * E) = x / k := by
    rw [Nat.mul_comm k E, ← Nat.div_div_eq_div_mul, Nat.mul_comm x E, Nat.mul_add_div hE, Nat.div_eq_of_lt hy, Nat.add_zero]
  refine ⟨e1, ?_⟩
  have e2 := Nat.div_add_mod (x * E + y) (k * E)
  rw [e1] at e2
  have e3 := Nat.div_add_mod x k
  have e4 : k * E * (x / k) + x % k * E = x * E := by
    rw [Nat.mul_right_comm, ← Nat.add_mul, e3]
  omega
theorem x_cut (p : Pr σ a h l) {k : Nat} (hk : 1 ≤ k) (hk2 : k ≤ 100) (hl : l < 1000000000000000000) (hh : h < 1000000000000000000) : (f_X5_cutBy σ a (iI (k : Nat)) = some (.inl 3) ∧ 999999999999999999 < (h * 1000000000000000000 + l) / 10 ^ k) ∨ (f_X5_cutBy σ a (iI (k : Nat)) = some (.inr (iL ((h * 1000000000000000000 + l) / 10 ^ k : Nat))) ∧ f_X5_restBy σ a (iI (k : Nat)) = some (iI (rst ((h * 1000000000000000000 + l) % 10 ^ k) (10 ^ k) : Nat)) ∧ (h * 1000000000000000000 + l) / 10 ^ k ≤ 999999999999999999) := by
  have n0 : ¬ iI (k : Nat) < 0 := fun q => by rw [iI_lit 0, jI_lt (by omega) (by omega)] at q; omega
  have hp := pow10_pos k
  unfold f_X5_cutBy f_X5_restBy
  rw [if_neg n0, if_neg n0, iI_lit 36, iI_lit 18]
  by_cases h36 : k ≤ 36
  · rw [if_pos (show iI (k : Nat) ≤ iI ((36 : Nat) : Int) by rw [jI_le (by omega) (by omega)]; exact h36), if_pos (show iI (k : Nat) ≤ iI ((36 : Nat) : Int) by rw [jI_le (by omega) (by omega)]; exact h36)]
    by_cases h18 : k ≤ 18
    · have p1 := pw18 h18
      have nz : ¬ iL ((10 ^ k : Nat) : Int) = 0 := fun w => by rw [iL_lit 0, jL_eq (by omega) (by omega)] at w; omega
      have hE : 1000000000000000000 = 10 ^ (18 - k) * 10 ^ k := by rw [← Nat.pow_add, show 18 - k + k = 18 by omega]
      have e1 : (h * 1000000000000000000 + l) / 10 ^ k = h * 10 ^ (18 - k) + l / 10 ^ k := by
        rw [hE, ← Nat.mul_assoc, Nat.mul_comm _ (10 ^ k), Nat.mul_add_div hp]
      have e2 : (h * 1000000000000000000 + l) % 10 ^ k = l % 10 ^ k := by
        rw [hE, ← Nat.mul_assoc, Nat.mul_comm _ (10 ^ k), Nat.mul_add_mod]
      have p2 := pw18 (k := 18 - k) (by omega)
      rw [if_pos (show iI (k : Nat) ≤ iI ((18 : Nat) : Int) by rw [jI_le (by omega) (by omega)]; exact h18), if_neg (show ¬ iI ((18 : Nat) : Int) < iI (k : Nat) from fun q => by rw [jI_lt (by omega) (by omega)] at q; omega), pw_v h18]
      simp only [Option.bind_some]
      rw [p.hi, p.lo, jI_sub h18, pw_v (by omega)]
      simp only [Option.bind_some, if_neg nz]
      rw [jL_md (by omega) (by omega), x_rest (Nat.mod_lt _ hp) (by omega), jL_dv (by omega) (by omega), jL_mul, jL_add, e1, e2]
      by_cases hc : h < 10 ^ k
      · rw [if_pos (by rw [jL_lt (by omega) (by omega)]; exact hc)]
        refine Or.inr ⟨rfl, rfl, ?_⟩
        have m1 : (h + 1) * 10 ^ (18 - k) ≤ 10 ^ k * 10 ^ (18 - k) := Nat.mul_le_mul_right _ hc
        rw [Nat.mul_comm (10 ^ k), ← hE, Nat.add_mul] at m1
        have m2 : l / 10 ^ k < 10 ^ (18 - k) := (Nat.div_lt_iff_lt_mul hp).mpr (by omega)
        generalize l / 10 ^ k = z at *
        omega
      · rw [if_neg (fun q => by rw [jL_lt (by omega) (by omega)] at q; omega)]
        refine Or.inl ⟨rfl, ?_⟩
        have m1 : 10 ^ k * 10 ^ (18 - k) ≤ h * 10 ^ (18 - k) := Nat.mul_le_mul_right _ (by omega)
        rw [Nat.mul_comm (10 ^ k), ← hE] at m1
        generalize l / 10 ^ k = z at *
        omega
    · obtain ⟨j, rfl⟩ : ∃ j, k = j + 18 := ⟨k - 18, by omega⟩
      have hj : j ≤ 18 := by omega
      have q1 := pw18 hj
      have q2 := pow10_pos j
      have eY : 10 ^ (j + 18) = 10 ^ j * 1000000000000000000 := Nat.pow_add 10 j 18
      obtain ⟨e1, e2⟩ := mul_add_dm h l (10 ^ j) (E := 1000000000000000000) (by decide) hl
      have nz : ¬ iL ((10 ^ j : Nat) : Int) = 0 := fun w => by rw [iL_lit 0, jL_eq (by omega) (by omega)] at w; omega
      have ev : 10 ^ j % 2 = 0 ∧ 2 ≤ 10 ^ j := by
        obtain ⟨i, rfl⟩ : ∃ i, j = i + 1 := ⟨j - 1, by omega⟩
        rw [Nat.pow_succ]
        have := pow10_pos i
        omega
      have hm : h % 10 ^ j < 10 ^ j := Nat.mod_lt _ q2
      have hd : h / 10 ^ j ≤ h := Nat.div_le_self _ _
      have rk := rst_k (h := h % 10 ^ j) (p := 10 ^ j) (l := l) (E := 1000000000000000000) ev.1 ev.2 hl hm
      have rv := rst_v (h % 10 ^ j) (10 ^ j)
      rw [if_neg (show ¬ iI ((j + 18 : Nat) : Int) ≤ iI ((18 : Nat) : Int) from fun q => by rw [jI_le (by omega) (by omega)] at q; omega), if_pos (show iI ((18 : Nat) : Int) < iI ((j + 18 : Nat) : Int) by rw [jI_lt (by omega) (by omega)]; omega), jI_sub (by omega), Nat.add_sub_cancel, pw_v hj]
      rw [p.hi]
      simp only [Option.bind_some, if_neg nz]
      rw [jL_md (by omega) (by omega), x_rest hm (by omega), jL_dv (by omega) (by omega), eY, e1, e2, Option.bind_some, rk]
      refine Or.inr ⟨rfl, ?_, by omega⟩
      unfold b_X5_restBy_89 b_X5_restBy_94
      rw [p.lo]
      generalize rst (h % 10 ^ j) (10 ^ j) = c at *
      have l0 : (iL (l : Nat) = 0) ↔ l = 0 := by rw [iL_lit 0, jL_eq (by omega) (by omega)]
      have lift : ∀ b : Bool, (c = 0 ∨ c = 2 ↔ b = true) → (if (if b = true then (1 : Int32) else 0) = 0 then some (iI (c : Nat)) else (some (iL (l : Nat))).bind fun x2 => if x2 = 0 then some (iI (c : Nat)) else some (iI (c : Nat) + 1)) = some (iI ((if (c = 0 ∨ c = 2) ∧ l ≠ 0 then c + 1 else c : Nat) : Int)) := by
        intro b hb
        cases b with
        | false => rw [if_pos (by decide), if_neg (fun w => by have := hb.mp w.1; cases this)]
        | true =>
          rw [if_neg (by decide), Option.bind_some]
          by_cases h0 : l = 0
          · rw [if_pos (l0.mpr h0), if_neg (fun w => w.2 h0)]
          · rw [if_neg (fun w => h0 (l0.mp w)), if_pos ⟨hb.mpr rfl, h0⟩, jI_s]
      by_cases c0 : c = 0
      · rw [if_pos (by rw [c0]; rfl)]
        exact lift true ⟨fun _ => rfl, fun _ => Or.inl c0⟩
      · rw [if_neg (fun w => c0 (by rw [iI_lit 0, jI_eq (by omega) (by omega)] at w; exact w))]
        by_cases c2 : c = 2
        · rw [if_pos (by rw [c2]; rfl)]
          exact lift true ⟨fun _ => rfl, fun _ => Or.inr c2⟩
        · rw [if_neg (fun w => c2 (by rw [iI_lit 2, jI_eq (by omega) (by omega)] at w; exact w))]
          exact lift false ⟨fun w => by omega, fun w => by cases w⟩
  · rw [if_neg (show ¬ iI (k : Nat) ≤ iI ((36 : Nat) : Int) from fun q => by rw [jI_le (by omega) (by omega)] at q; omega), if_neg (show ¬ iI (k : Nat) ≤ iI ((36 : Nat) : Int) from fun q => by rw [jI_le (by omega) (by omega)] at q; omega)]
    have p37 : 10 ^ 37 ≤ 10 ^ k := Nat.pow_le_pow_right (by decide) (by omega)
    have hx : h * 1000000000000000000 + l < 10 ^ 36 := by omega
    have rv := rst_v (h * 1000000000000000000 + l) (10 ^ k)
    rw [Nat.div_eq_of_lt (by omega), Nat.mod_eq_of_lt (by omega)]
    refine Or.inr ⟨rfl, ?_, by decide⟩
    unfold b_X5_restBy_10
    rw [p.hi, Option.bind_some, p.lo, Option.bind_some]
    by_cases h0 : h = 0
    · rw [if_pos (by rw [h0]; rfl)]
      by_cases l0 : l = 0
      · rw [if_pos (by rw [l0]; rfl), show rst (h * 1000000000000000000 + l) (10 ^ k) = 0 by omega]; rfl
      · rw [if_neg (fun w => by rw [iL_lit 0, jL_eq (by omega) (by omega)] at w; omega), show rst (h * 1000000000000000000 + l) (10 ^ k) = 1 by omega]; rfl
    · rw [if_neg (fun w => by rw [iL_lit 0, jL_eq (by omega) (by omega)] at w; omega), show rst (h * 1000000000000000000 + l) (10 ^ k) = 1 by omega]; rfl
end XP
