/-! ===== what was told of a kind ===== -/
def BV (T : Nat → Nat → Option Int32) (k q : Nat) (v : Int32) : Prop := (v = 0 ∧ ∀ p, p ≤ q → T k p = none) ∨ ∃ p, p ≤ q ∧ T k p = some v ∧ ∀ p', p' ≤ q → T k p' ≠ none → p' ≤ p
theorem BV.uni {T : Nat → Nat → Option Int32} {k q : Nat} {v w : Int32} (h : BV T k q v) (h' : BV T k q w) : v = w := by
  rcases h with ⟨a, b⟩ | ⟨p, a, b, c⟩
  · rcases h' with ⟨a', b'⟩ | ⟨p', a', b', c'⟩
    · rw [a, a']
    · rw [b p' a'] at b'; cases b'
  · rcases h' with ⟨a', b'⟩ | ⟨p', a', b', c'⟩
    · rw [b' p a] at b; cases b
    · have h1 := c p' a' (by rw [b']; exact fun w => by cases w)
      have h2 := c' p a (by rw [b]; exact fun w => by cases w)
      have e : p = p' := by omega
      subst e
      rw [b] at b'
      exact Option.some.inj b'
section TO
variable {mb ni N : Nat} {A : AM} {W : WM} {K : KS} {M : MS} {σ : Sto} {T : Nat → Nat → Option Int32}
theorem x_amountAt {j k cnt q : Nat} (hG : Gk ni A W) (hS : StT T K j k cnt) (hj : j < 12) (hc : cnt ≤ 512) (hq : q < 1000000) (hN : 1000 ≤ N) : ∃ v, f_X8_amountAt N (ovk A W K σ) (A 26 j) (iI (q : Nat)) = some v ∧ BV T k q v := by
  obtain ⟨s1, s2, s3, s4, s5, s6, s7, s8⟩ := hS
  unfold f_X8_amountAt b_X8_amountAt_7
  refine lp_ex (n := cnt) (Inv := fun i a => ∃ (v2 v3 : Int32), a = (ovk A W K σ, A 26 j, iI (q : Nat), v2, v3, iI (i : Nat)) ∧ ((v2 = iI (-1) ∧ v3 = 0 ∧ ∀ i' p : Nat, i' < i → p < 1000000 → K.1 27 j i' = iI (p : Nat) → q < p) ∨ ∃ p : Nat, v2 = iI (p : Nat) ∧ p ≤ q ∧ T k p = some v3 ∧ ∀ i' p' : Nat, i' < i → p' < 1000000 → K.1 27 j i' = iI (p' : Nat) → p' ≤ q → p' ≤ p)) (Post := fun r => ∃ v, r = some v ∧ BV T k q v) (fun i a hi hI => ?_) (fun a hI KK => ?_) N 0 _ (Nat.zero_le _) (by omega) ⟨iI (-1), 0, rfl, Or.inl ⟨rfl, rfl, fun i' p h => by omega⟩⟩
  · obtain ⟨v2, v3, rfl, hv⟩ := hI
    obtain ⟨p, p1, p2, p3⟩ := s6 i hi
    have i27 : inB (iI (i : Nat)) (K.2.2.2 27 j) = true := inN (by omega) (by omega)
    have i28 : inB (iI (i : Nat)) (K.2.2.2 28 j) = true := inN (by omega) (by omega)
    have ki : (iI (i : Nat)).toNatClampNeg = i := clN (by omega)
    have hle : ¬ iI (cnt : Nat) ≤ iI (i : Nat) := fun w => by rw [jI_le (by omega) (by omega)] at w; omega
    have lq : iI (q : Nat) < iI (p : Nat) ↔ q < p := jI_lt (by omega) (by omega)
    have pu : ∀ p' : Nat, p' < 1000000 → K.1 27 j i = iI (p' : Nat) → p' = p := fun p' h1 h2 => by
      rw [p2] at h2
      exact ((jI_eq (by omega) (by omega)).mp h2).symm
    have run : ∀ KK : Sto × Nat × Int32 × Int32 × Int32 × Int32 → Option Int32, b_X8_amountAt_7_body N KK (ovk A W K σ) (A 26 j) (iI (q : Nat)) v2 v3 (iI (i : Nat)) = if q < p then KK (ovk A W K σ, A 26 j, iI (q : Nat), v2, v3, iI ((i + 1 : Nat) : Int)) else if iI (p : Nat) ≤ v2 then KK (ovk A W K σ, A 26 j, iI (q : Nat), v2, v3, iI ((i + 1 : Nat) : Int)) else KK (ovk A W K σ, A 26 j, iI (q : Nat), iI (p : Nat), K.1 28 j i, iI ((i + 1 : Nat) : Int)) := by
      intro KK
      unfold b_X8_amountAt_7_body b_X8_amountAt_54
      simp only [xI_26_2 hG hj, xR_26_0 hG hj, xR_26_1 hG hj, xA_27 hG hj, xA_28 hG hj, i27, i28, ki, if_true, Option.bind_some, s1, if_neg hle, p2, lt_, jI_s, lq]
    by_cases h1 : q < p
    · refine ⟨_, ⟨v2, v3, rfl, ?_⟩, fun KK => (run KK).trans (if_pos h1)⟩
      rcases hv with ⟨e1, e2, e3⟩ | ⟨b, e1, e2, e3, e4⟩
      · refine Or.inl ⟨e1, e2, fun i' p' h h2 h3 => ?_⟩
        by_cases e : i' = i
        · subst e; rw [pu p' h2 h3]; exact h1
        · exact e3 i' p' (by omega) h2 h3
      · refine Or.inr ⟨b, e1, e2, e3, fun i' p' h h2 h3 h4 => ?_⟩
        by_cases e : i' = i
        · subst e; rw [pu p' h2 h3] at h4; omega
        · exact e4 i' p' (by omega) h2 h3 h4
    · by_cases h2 : iI (p : Nat) ≤ v2
      · refine ⟨_, ⟨v2, v3, rfl, ?_⟩, fun KK => (run KK).trans ((if_neg h1).trans (if_pos h2))⟩
        rcases hv with ⟨e1, e2, e3⟩ | ⟨b, e1, e2, e3, e4⟩
        · rw [e1, iI_le ⟨by omega, by omega⟩ ⟨by decide, by decide⟩] at h2
          omega
        · refine Or.inr ⟨b, e1, e2, e3, fun i' p' h h5 h3 h4 => ?_⟩
          by_cases e : i' = i
          · subst e
            rw [pu p' h5 h3]
            rw [e1, jI_le (by omega) (by omega)] at h2
            exact h2
          · exact e4 i' p' (by omega) h5 h3 h4
      · refine ⟨_, ⟨iI (p : Nat), K.1 28 j i, rfl, Or.inr ⟨p, rfl, by omega, p3, fun i' p' h h5 h3 h4 => ?_⟩⟩, fun KK => (run KK).trans ((if_neg h1).trans (if_neg h2))⟩
        by_cases e : i' = i
        · subst e
          rw [pu p' h5 h3]
          exact Nat.le_refl _
        · rcases hv with ⟨e1, e2, e3⟩ | ⟨b, e1, e2, e3, e4⟩
          · have := e3 i' p' (by omega) h5 h3
            omega
          · have h6 := e4 i' p' (by omega) h5 h3 h4
            rw [e1, jI_le (by omega) (by omega)] at h2
            omega
  · obtain ⟨v2, v3, rfl, hv⟩ := hI
    have hle : iI (cnt : Nat) ≤ iI (cnt : Nat) := by rw [jI_le (by omega) (by omega)]; omega
    refine ⟨v3, ?_, ?_⟩
    · dsimp only
      unfold b_X8_amountAt_7_body
      rw [xI_26_2 hG hj, Option.bind_some, s1, if_pos hle]
    · have all : ∀ p', T k p' ≠ none → ∃ i, i < cnt ∧ K.1 27 j i = iI (p' : Nat) := s8
      have small : ∀ p', T k p' ≠ none → p' < 1000000 ∨ True := fun _ _ => Or.inr trivial
      rcases hv with ⟨e1, e2, e3⟩ | ⟨b, e1, e2, e3, e4⟩
      · refine Or.inl ⟨e2, fun p hp => ?_⟩
        by_cases h : T k p = none
        · exact h
        · obtain ⟨i, h1, h2⟩ := all p h
          have := e3 i p h1 (by omega) h2
          omega
      · refine Or.inr ⟨b, e2, e3, fun p' hp h => ?_⟩
        obtain ⟨i, h1, h2⟩ := all p' h
        exact e4 i p' h1 (by omega) h2 hp
theorem m_told {k q n : Nat} {at_ row many : Nat → Int32} {a0 a1 : Nat} {τ : Sto} (hT : MtT T at_ row many n) (hn : n ≤ 512) (hA : ∀ i : Nat, i < n → aI τ a0 1 (iI (i : Nat)) = some (at_ i)) (hB : ∀ i : Nat, i < n → aI τ a1 1 (iI (i : Nat)) = some (row i)) (hk : k < 6) (hq : q < 1000000) (hN : 1000 ≤ N) : ∃ v, f_X12_told N τ a0 a1 (iI (n : Nat)) (iI (k : Nat)) (iI (q : Nat)) = some v ∧ BV T k q v := by
  obtain ⟨t1, t2, t3⟩ := hT
  unfold f_X12_told b_X12_told_6
  have hit : ∀ i, i < n → ∃ kk p : Nat, kk < 6 ∧ p < 1000000 ∧ at_ i = iI ((1000000 * kk + p : Nat) : Int) ∧ T kk p = some (row i) := t1
  refine lp_ex (n := n) (Inv := fun i a => ∃ v5 : Int32, a = (τ, a0, a1, iI (n : Nat), iI (k : Nat), iI (q : Nat), v5, iI (i : Nat)) ∧ ((v5 = iI (-1) ∧ ∀ i' p : Nat, i' < i → p < 1000000 → at_ i' = iI ((1000000 * k + p : Nat) : Int) → q < p) ∨ ∃ b p : Nat, b < n ∧ v5 = iI (b : Nat) ∧ p ≤ q ∧ at_ b = iI ((1000000 * k + p : Nat) : Int) ∧ ∀ i' p' : Nat, i' < i → p' < 1000000 → at_ i' = iI ((1000000 * k + p' : Nat) : Int) → p' ≤ q → p' ≤ p)) (Post := fun r => ∃ v, r = some v ∧ BV T k q v) (fun i a hi hI => ?_) (fun a hI KK => ?_) N 0 _ (Nat.zero_le _) (by omega) ⟨iI (-1), rfl, Or.inl ⟨rfl, fun i' p h => by omega⟩⟩
  · obtain ⟨v5, rfl, hv⟩ := hI
    obtain ⟨kk, p, p0, p1, p2, p3⟩ := hit i hi
    have hle : ¬ iI (n : Nat) ≤ iI (i : Nat) := fun w => by rw [jI_le (by omega) (by omega)] at w; omega
    have e1 : (1000000 : Int32) * iI (k : Nat) = iI ((1000000 * k : Nat) : Int) := by rw [iI_lit 1000000, jI_mul]
    have e2 : iI ((1000000 * k : Nat) : Int) + iI (q : Nat) = iI ((1000000 * k + q : Nat) : Int) := jI_add _ _
    have inn : f_X12_in (Int32.toInt64 (iI ((1000000 * kk + p : Nat) : Int))) (Int32.toInt64 (iI ((1000000 * k : Nat) : Int))) (Int32.toInt64 (iI ((1000000 * k + q : Nat) : Int))) = some (if kk = k ∧ p ≤ q then 1 else 0) := by
      rw [m_inX]
      have a1' : iI ((1000000 * kk + p : Nat) : Int) < iI ((1000000 * k : Nat) : Int) ↔ 1000000 * kk + p < 1000000 * k := jI_lt (by omega) (by omega)
      have a2' : iI ((1000000 * k + q : Nat) : Int) < iI ((1000000 * kk + p : Nat) : Int) ↔ 1000000 * k + q < 1000000 * kk + p := jI_lt (by omega) (by omega)
      by_cases h : kk = k ∧ p ≤ q
      · rw [if_pos h, if_neg (fun w => by rw [a1', a2'] at w; omega)]
      · rw [if_neg h, if_pos (by rw [a1', a2']; omega)]
    have pu : ∀ p' : Nat, p' < 1000000 → at_ i = iI ((1000000 * k + p' : Nat) : Int) → kk = k ∧ p' = p := fun p' h1 h2 => by
      rw [p2] at h2
      have := (jI_eq (by omega) (by omega)).mp h2
      omega
    by_cases h : kk = k ∧ p ≤ q
    case neg =>
      refine ⟨(τ, a0, a1, iI (n : Nat), iI (k : Nat), iI (q : Nat), v5, iI ((i + 1 : Nat) : Int)), ⟨v5, rfl, ?_⟩, fun KK => ?_⟩
      · rcases hv with ⟨f1, f2⟩ | ⟨b, pb, f1, f2, f3, f4, f5⟩
        · refine Or.inl ⟨f1, fun i' p' g1 g2 g3 => ?_⟩
          by_cases e : i' = i
          · subst e; have := pu p' g2 g3; omega
          · exact f2 i' p' (by omega) g2 g3
        · refine Or.inr ⟨b, pb, f1, f2, f3, f4, fun i' p' g1 g2 g3 g4 => ?_⟩
          by_cases e : i' = i
          · subst e; have := pu p' g2 g3; omega
          · exact f5 i' p' (by omega) g2 g3 g4
      · dsimp only
        unfold b_X12_told_6_body b_X12_told_58
        rw [if_neg hle, hA i hi, Option.bind_some, p2, e1, e2, inn, if_neg h, Option.bind_some, if_pos rfl]
        dsimp only [lt_]
        rw [jI_s]
    case pos =>
      obtain ⟨rfl, hpq⟩ := h
      rcases hv with ⟨f1, f2⟩ | ⟨b, pb, f1, f2, f3, f4, f5⟩
      · refine ⟨(τ, a0, a1, iI (n : Nat), iI (kk : Nat), iI (q : Nat), iI (i : Nat), iI ((i + 1 : Nat) : Int)), ⟨iI (i : Nat), rfl, Or.inr ⟨i, p, hi, rfl, hpq, p2, fun i' p' g1 g2 g3 g4 => ?_⟩⟩, fun KK => ?_⟩
        · by_cases e : i' = i
          · subst e; have := pu p' g2 g3; omega
          · have := f2 i' p' (by omega) g2 g3; omega
        · dsimp only
          unfold b_X12_told_6_body b_X12_told_54 b_X12_told_58
          rw [if_neg hle, hA i hi, Option.bind_some, p2, e1, e2, inn, if_pos ⟨rfl, hpq⟩, Option.bind_some, if_neg (by decide), f1, if_pos (by decide)]
          dsimp only [lt_]
          rw [jI_s]
      · have nb : ¬ v5 < 0 := fun w => by rw [f2, iI_lit 0, jI_lt (by omega) (by omega)] at w; omega
        have le2 : iI ((1000000 * kk + p : Nat) : Int) ≤ iI ((1000000 * kk + pb : Nat) : Int) ↔ p ≤ pb := by rw [jI_le (by omega) (by omega)]; omega
        by_cases h2 : p ≤ pb
        · refine ⟨(τ, a0, a1, iI (n : Nat), iI (kk : Nat), iI (q : Nat), v5, iI ((i + 1 : Nat) : Int)), ⟨v5, rfl, Or.inr ⟨b, pb, f1, f2, f3, f4, fun i' p' g1 g2 g3 g4 => ?_⟩⟩, fun KK => ?_⟩
          · by_cases e : i' = i
            · subst e; have := pu p' g2 g3; omega
            · exact f5 i' p' (by omega) g2 g3 g4
          · dsimp only
            unfold b_X12_told_6_body b_X12_told_58
            rw [if_neg hle, hA i hi, Option.bind_some, p2, e1, e2, inn, if_pos ⟨rfl, hpq⟩, Option.bind_some, if_neg (by decide), if_neg nb, f2, Option.bind_some, hA b f1, Option.bind_some, f4, if_pos (le2.mpr h2)]
            dsimp only [lt_]
            rw [jI_s]
        · refine ⟨(τ, a0, a1, iI (n : Nat), iI (kk : Nat), iI (q : Nat), iI (i : Nat), iI ((i + 1 : Nat) : Int)), ⟨iI (i : Nat), rfl, Or.inr ⟨i, p, hi, rfl, hpq, p2, fun i' p' g1 g2 g3 g4 => ?_⟩⟩, fun KK => ?_⟩
          · by_cases e : i' = i
            · subst e; have := pu p' g2 g3; omega
            · have := f5 i' p' (by omega) g2 g3 g4; omega
          · dsimp only
            unfold b_X12_told_6_body b_X12_told_54 b_X12_told_58
            rw [if_neg hle, hA i hi, Option.bind_some, p2, e1, e2, inn, if_pos ⟨rfl, hpq⟩, Option.bind_some, if_neg (by decide), if_neg nb, f2, Option.bind_some, hA b f1, Option.bind_some, f4, if_neg (fun w => h2 (le2.mp w))]
            dsimp only [lt_]
            rw [jI_s]
  · obtain ⟨v5, rfl, hv⟩ := hI
    have hle : iI (n : Nat) ≤ iI (n : Nat) := by rw [jI_le (by omega) (by omega)]; omega
    dsimp only
    unfold b_X12_told_6_body
    rw [if_pos hle]
    rcases hv with ⟨f1, f2⟩ | ⟨b, pb, f1, f2, f3, f4, f5⟩
    · refine ⟨0, by rw [f1, if_neg (by decide)], Or.inl ⟨rfl, fun p hp => ?_⟩⟩
      by_cases h : T k p = none
      · exact h
      · obtain ⟨-, g1, i, g2, g3⟩ := t3 k p h
        have := f2 i p g2 g1 g3
        omega
    · refine ⟨row b, by rw [f2, if_pos (by rw [iI_lit 0, jI_le (by omega) (by omega)]; omega), hB b f1, Option.bind_some], Or.inr ⟨pb, f3, ?_, fun p' hp h => ?_⟩⟩
      · obtain ⟨kk, p, p0, p1, p2, p3⟩ := hit b f1
        rw [f4] at p2
        have := (jI_eq (by omega) (by omega)).mp p2
        have ek : kk = k := by omega
        have ep : p = pb := by omega
        rw [← ek, ← ep]
        exact p3
      · obtain ⟨-, g1, i, g2, g3⟩ := t3 k p' h
        exact f5 i p' g2 g1 g3 hp
/-- kinds -/
theorem ki_cases {v : Int32} : (f_X11_checkKind v = some (.inl 0) ∧ f_X12_isKind v = some 0) ∨ ∃ k : Nat, v = iI (k : Nat) ∧ k < 6 ∧ f_X11_checkKind v = some (.inr ()) ∧ f_X12_isKind v = some 1 := by
  obtain ⟨k, k1, k2, rfl⟩ := iI_of v
  have m := m_rangeI (v := k) (a := 0) (b := 5) (a' := 0) (b' := 5) rfl rfl ⟨k1, k2⟩ ⟨by decide, by decide⟩ ⟨by decide, by decide⟩
  have l0 : iI k < 0 ↔ k < 0 := by rw [show (0 : Int32) = iI 0 from rfl, iI_lt ⟨k1, k2⟩ ⟨by decide, by decide⟩]
  have ln : iI k < 6 ↔ k < 6 := by rw [show (6 : Int32) = iI 6 from rfl, iI_lt ⟨k1, k2⟩ ⟨by decide, by decide⟩]
  unfold f_X12_isKind
  rw [m, Option.bind_some]
  unfold f_X11_checkKind
  by_cases h : 0 ≤ k ∧ k ≤ 5
  · obtain ⟨kn, rfl⟩ : ∃ kn : Nat, k = kn := ⟨k.toNat, by omega⟩
    refine Or.inr ⟨kn, rfl, by omega, ?_, ?_⟩
    · rw [if_neg (fun w => by have := l0.mp w; omega), if_pos (ln.mpr (by omega))]
    · rw [decide_eq_true h]; rfl
  · refine Or.inl ⟨?_, ?_⟩
    · by_cases h0 : k < 0
      · rw [if_pos (l0.mpr h0)]
      · rw [if_neg (fun w => h0 (l0.mp w)), if_neg (fun w => by have := ln.mp w; omega)]
    · rw [decide_eq_false h]; rfl
end TO
theorem p_tax {xb mb ob N : Nat} (hN : 1000 ≤ N) : A_tax (I0 xb mb ob) N xb mb ob := by
  intro v1 v2
  refine ag_in (fun n σ sz ni A W K M hn hA ho hC hR hF => ?_)
  subst hA
  have bb2 : ∀ {α β γ : Type} (x : α) (y : β) (f : α → β → Option γ), b2 (some (x, y)) f = f x y := fun _ _ _ => rfl
  rcases ki_cases (v := v1) with ⟨k1, k2⟩ | ⟨k, rfl, hk, k1, k2⟩
  · refine ag_no (k := 1) (y := sz) rfl ho hC hR ?_ (by decide) (by decide) (fun ρ => ⟨uI M 8 1, 0, ?_, Sd.u8, u8_v⟩)
    · simp only [f_L_tax, f_X11_tax, hC.xo, Option.bind_some, k1, bs]
      rfl
    · unfold f_X12_tax
      rw [k2, Option.bind_some, if_pos rfl]
      unfold b_X12_tax_29
      rw [ov_isO, Option.bind_some, ff1, bb2, if_neg (by decide)]
  rcases ra_i (v := v2) 0 9999 (by decide) (by decide) (a' := 0) (b' := 9999) rfl rfl with ⟨d1, d2⟩ | ⟨d, rfl, -, hd, d1, d2⟩
  · refine ag_no (k := 2) (y := sz) rfl ho hC hR ?_ (by decide) (by decide) (fun ρ => ⟨uI M 8 2, 0, ?_, Sd.u8, u8_v⟩)
    · simp only [f_L_tax, f_X11_tax, hC.xo, Option.bind_some, k1, d1, bs]
      rfl
    · unfold f_X12_tax
      rw [k2, Option.bind_some, if_neg (by decide), d2, Option.bind_some, if_pos rfl]
      unfold b_X12_tax_29
      rw [ov_isO, Option.bind_some, ff2, bb2, if_neg (by decide)]
  obtain ⟨T, D, ct, cd, nt, nd_, t1, t2, t3, t4, t5, t6, t7, t8, -⟩ := hR.2.2.2.2.1
  obtain ⟨u1, u2, u3⟩ := t1 k hk
  obtain ⟨v, xv, bv⟩ := x_amountAt (N := N) (σ := σ) (q := d) hC.1 u2 (by omega) (by omega) (by omega) hN
  have key : f_X11_tax N (ovk A W K σ) (A 0 0) (iI (k : Nat)) (iI (d : Nat)) = some (.inr v) := by
    unfold f_X11_tax
    rw [k1, Option.bind_some]
    dsimp only [bs]
    rw [d1, Option.bind_some]
    dsimp only
    rw [xR_0_4 hC.1, Option.bind_some, xA_6 hC.1, inN hk (by decide), if_pos rfl, clN (by omega), Option.bind_some, show rk A (K.2.2.1 6) 6 k = some (A 26 (2 * k)) from if_pos hk, Option.bind_some, xO_26 hC.1 (by omega), Option.bind_some, xv, Option.bind_some]
  rw [hC.eqk] at key
  refine ag_ok (v := v.toInt64) (y := sz) rfl ho ?_ hC (fun ρ => ⟨uI M 8 0, v, ?_, u8_v, rfl, (hR.sd Sd.u8).up⟩)
  · simp only [f_L_tax, hC.xo, Option.bind_some, key, bs]
  · have t5' : (uI M 8 0).1 20 = iI (nt : Nat) := t5
    obtain ⟨w, mw, bw⟩ := m_told (N := N) (τ := ov mb (uI M 8 0) ρ) (a0 := mb + 12) (a1 := mb + 13) (k := k) (q := d) t7 (by omega) (fun i hi => by rw [oA_14, inN (show i < 65536 by omega) (by decide), if_pos rfl, clN (by omega)]; rfl) (fun i hi => by rw [oA_15, inN (show i < 65536 by omega) (by decide), if_pos rfl, clN (by omega)]; rfl) hk (by omega) hN
    have e : w = v := bw.uni bv
    subst e
    unfold f_X12_tax
    rw [k2, Option.bind_some, if_neg (by decide), d2, Option.bind_some, if_neg (by decide)]
    unfold b_X12_tax_29 f_X12_taxAt
    rw [ov_isO, Option.bind_some, ff0, bb2, if_pos rfl, ov_isO, Option.bind_some, oR_14, Option.bind_some, oR_15, Option.bind_some, oI_20, Option.bind_some, t5', mw, Option.bind_some, Option.bind_some]
