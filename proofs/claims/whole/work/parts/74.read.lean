/-! ===== read ===== -/
section RD
variable {mb ni sz len : Nat} {A : AM} {W : WM} {K : KS} {M : MS} {σ ρ : Sto} {f : Nat → Int32}
theorem x_value_loop (hG : Gk ni A W) (l1 : len ≤ 24) (l2 : K.1 2 0 1 = iI (len : Nat)) (l4 : ∀ i, i < len → K.1 3 0 i = f i) (ok : ∀ j, j ≤ len → okS (stT f j)) (NN : Nat) : ∀ (N k : Nat), k ≤ len → len < N + k → tU f k < 1000000000000000000 → lp (fun k e => b_X9_value_19_body NN k e.1 e.2.1 e.2.2.1 e.2.2.2.1 e.2.2.2.2.1 e.2.2.2.2.2.1 e.2.2.2.2.2.2.1 e.2.2.2.2.2.2.2.1 e.2.2.2.2.2.2.2.2.1 e.2.2.2.2.2.2.2.2.2) N (ovk A W K σ, sz, A 2 0, iL (tU f k : Nat), iI (tS f k : Nat), iI (tE f k : Nat), bI (tN f k), bI (tX f k), phi (stT f k), iI (k : Nat)) = vQ (chk (sgn (tN f len) (tU f len)) (tZ f len)) (ovk A W K σ) sz := by
  intro N
  induction N with
  | zero => intro k h1 h2; omega
  | succ N ih =>
    intro k hk hN hu
    rw [lp_s]
    dsimp only
    unfold b_X9_value_19_body
    rw [xI_2_1 hG, Option.bind_some, l2]
    by_cases he : len ≤ k
    · have ek : k = len := by omega
      subst ek
      have e1 := tS_le (f := f) (k := k)
      have e2 := tE_le ok (Nat.le_refl k)
      have fin : ∀ u : Int, -9223372036854775808 ≤ u ∧ u < 9223372036854775808 → b_X9_value_173 NN (ovk A W K σ) sz (iI (tS f k : Nat)) (iI (tE f k : Nat)) (bI (tX f k)) (iL u) = vQ (chk u (tZ f k)) (ovk A W K σ) sz := by
        intro u hu'
        unfold b_X9_value_173 b_X9_value_189 tZ
        cases hx : tX f k with
        | false =>
          rw [if_pos (by decide), if_neg (by decide), iI_sub, x_checked hu' ⟨by omega, by omega⟩]
          exact vQ_id
        | true =>
          rw [if_neg (by decide), if_pos rfl, iI_add, x_checked hu' ⟨by omega, by omega⟩]
          exact vQ_id
      rw [if_pos (Int32.le_refl _)]
      cases hn : tN f k with
      | false =>
        rw [if_pos (by decide)]
        exact fin _ ⟨by omega, by omega⟩
      | true =>
        rw [if_neg (by decide), iL_neg]
        exact fin _ ⟨by omega, by omega⟩
    · have hk24 : k < 24 := by omega
      have hkl : k < len := by omega
      obtain ⟨n1, n2, n3, n4, n5, n6, n7, n8⟩ := nx_all (ok k hk) (f k)
      have ok1 := ok (k + 1) (by omega)
      rw [← stT_s] at n2 n3 n4 n5 n6 n7 n8
      have ihk := ih (k + 1) (by omega) (by omega)
      rw [if_neg (fun w => by rw [jI_le (by omega) (by omega)] at w; omega), xR_2_0 hG, Option.bind_some, xA_3 hG, inN hk24 (by decide), if_pos rfl, clN (by omega), Option.bind_some, l4 k hkl, n2, Option.bind_some]
      have hU := tU_s (f := f) (k := k)
      have hS := tS_s (f := f) (k := k)
      have hE := tE_s (f := f) (k := k)
      have hNn := tN_s (f := f) (k := k)
      have hX := tX_s (f := f) (k := k)
      obtain ⟨y, hy⟩ : ∃ y, y = stT f (k + 1) := ⟨_, rfl⟩
      rw [← hy] at hU hS hE hNn hX ok1 ihk n4 n5 n6 n7 ⊢
      have dcd : decide (f k = 45) = true ↔ f k = 45 := decide_eq_true_iff
      -- exponent's digits
      have expo : (y = 8 ∨ y = 9 ∨ y = 10) → (f_X9_isDigit (f k) = some 1 ∧ iI (tE f k : Nat) * 10 + (f k - 48) = iI (tE f (k + 1) : Nat) ∧ tU f (k + 1) = tU f k ∧ tS f (k + 1) = tS f k ∧ tN f (k + 1) = tN f k ∧ tX f (k + 1) = tX f k) := by
        intro h
        obtain ⟨d1, d2, d3, d4⟩ := st_dig ok hkl (by rw [← hy]; exact Or.inr (Or.inr h))
        rw [if_pos h] at hE
        refine ⟨d4, ?_, ?_, ?_, ?_, ?_⟩
        · rw [d3, iI_lit 10, jI_mul, jI_add, hE]
        · rw [hU, if_neg (by rcases h with h | h | h <;> rw [h] <;> decide)]
        · rw [hS, if_neg (by rcases h with h | h | h <;> rw [h] <;> decide)]
        · rw [hNn, if_neg (by rcases h with h | h | h <;> rw [h] <;> decide)]
        · rw [hX, if_neg (by rcases h with h | h | h <;> rw [h] <;> decide)]
      -- digits of the number
      have digs : (y = 2 ∨ y = 6) → (f_X9_isDigit (f k) = some 1 ∧ f k - 48 = iI (dv (f k) : Nat) ∧ dv (f k) ≤ 9 ∧ tU f (k + 1) = tU f k * 10 + dv (f k) ∧ tE f (k + 1) = tE f k ∧ tN f (k + 1) = tN f k ∧ tX f (k + 1) = tX f k) := by
        intro h
        obtain ⟨d1, d2, d3, d4⟩ := st_dig ok hkl (by rw [← hy]; rcases h with h | h; exact Or.inl h; exact Or.inr (Or.inl h))
        rw [if_pos h] at hU
        refine ⟨d4, d3, d1, hU, ?_, ?_, ?_⟩
        · rw [hE, if_neg (by rcases h with h | h <;> rw [h] <;> decide)]
        · rw [hNn, if_neg (by rcases h with h | h <;> rw [h] <;> decide)]
        · rw [hX, if_neg (by rcases h with h | h <;> rw [h] <;> decide)]
      have idle : (y = 3 ∨ y = 4 ∨ y = 5) → (f_X9_isDigit (f k) = some 0 ∧ tU f (k + 1) = tU f k ∧ tS f (k + 1) = tS f k ∧ tE f (k + 1) = tE f k ∧ tN f (k + 1) = tN f k ∧ tX f (k + 1) = tX f k) := by
        intro h
        refine ⟨nd_of (n7 (by rcases h with h | h | h; exact Or.inr (Or.inr (Or.inl h)); exact Or.inr (Or.inr (Or.inr (Or.inl h))); exact Or.inr (Or.inr (Or.inr (Or.inr (Or.inl h)))))), ?_, ?_, ?_, ?_, ?_⟩
        · rw [hU, if_neg (by rcases h with h | h | h <;> rw [h] <;> decide)]
        · rw [hS, if_neg (by rcases h with h | h | h <;> rw [h] <;> decide)]
        · rw [hE, if_neg (by rcases h with h | h | h <;> rw [h] <;> decide)]
        · rw [hNn, if_neg (by rcases h with h | h | h <;> rw [h] <;> decide)]
        · rw [hX, if_neg (by rcases h with h | h | h <;> rw [h] <;> decide)]
      have long : tU f k ≤ 99999999999999999 → dv (f k) ≤ 9 → f k - 48 = iI (dv (f k) : Nat) → f_X9_longer (iL (tU f k : Nat)) (f k - 48) = some (.inr (iL ((tU f k * 10 + dv (f k) : Nat) : Int))) := by
        intro h hd h48
        unfold f_X9_longer
        rw [h48, if_pos (by rw [iL_lit 99999999999999999, jL_le (by omega) (by decide)]; exact h), iI_iL ⟨by omega, by omega⟩, iL_lit 10, jL_mul, jL_add]
      have over : ¬ tU f k ≤ 99999999999999999 → (y = 2 ∨ y = 6) → chk (sgn (tN f len) (tU f len)) (tZ f len) = none ∧ ∀ d, f_X9_longer (iL (tU f k : Nat)) d = some (.inl 3) := by
        intro h h2
        constructor
        · have m1 := tU_mono (f := f) (j := k + 1) (k := len) (by omega)
          rw [(digs h2).2.2.2.1] at m1
          unfold chk
          rw [if_neg]
          unfold inR
          refine fun w => ?_
          have w := of_decide_eq_true w
          unfold sgn at w
          split at w <;> omega
        · intro d
          unfold f_X9_longer
          rw [if_neg (fun w => h (by rw [iL_lit 99999999999999999, jL_le (by omega) (by decide)] at w; exact w))]
      rcases ok1 with rfl | rfl | rfl | rfl | rfl | rfl | rfl | rfl | rfl | rfl | rfl
      · have := st_0 ok (by omega : k + 1 ≤ len) hy.symm
        omega
      · -- a sign
        rw [if_pos (by decide)]
        have u1 : tU f (k + 1) = tU f k := hU.trans (if_neg (by decide))
        have u2 : tS f (k + 1) = tS f k := hS.trans (if_neg (by decide))
        have u3 : tE f (k + 1) = tE f k := hE.trans (if_neg (by decide))
        have u4 : tX f (k + 1) = tX f k := hX.trans (if_neg (by decide))
        have u5 : tN f (k + 1) = decide (f k = 45) := hNn.trans (if_pos rfl)
        rw [u1, u2, u3, u4, u5] at ihk
        unfold b_X9_value_64 b_X9_value_156
        dsimp only [lt_]
        rw [jI_s]
        by_cases h : f k = 45
        · rw [decide_eq_true h] at ihk
          rw [if_pos h]
          exact ihk hu
        · rw [decide_eq_false h] at ihk
          rw [if_neg h]
          exact ihk hu
      · -- digits
        obtain ⟨g1, g2, g3, g4, g5, g6, g7⟩ := digs (Or.inl rfl)
        have g8 : tS f (k + 1) = tS f k := hS.trans (if_neg (by decide))
        rw [if_neg (by decide), if_neg (by decide), g1, Option.bind_some, if_neg (by decide), if_pos (by decide)]
        unfold b_X9_value_124
        rw [g1, Option.bind_some, if_neg (by decide)]
        by_cases h : tU f k ≤ 99999999999999999
        · rw [long h g3 g2, Option.bind_some]
          rw [g4, g5, g6, g7, g8] at ihk
          dsimp only [bs]
          rw [if_neg (by decide)]
          unfold b_X9_value_154 b_X9_value_156
          dsimp only [lt_]
          rw [jI_s, iI_lit 0, jI_add, Nat.add_zero]
          exact ihk (by omega)
        · obtain ⟨o1, o2⟩ := over h (Or.inl rfl)
          rw [o2, o1]
          rfl
      · obtain ⟨g1, g2, g3, g4, g5, g6⟩ := idle (Or.inl rfl)
        rw [if_neg (by decide), if_neg (by decide), g1, Option.bind_some, if_pos rfl]
        unfold b_X9_value_124
        rw [g1, Option.bind_some, if_pos rfl]
        unfold b_X9_value_156
        dsimp only [lt_]
        rw [g2, g3, g4, g5, g6] at ihk
        rw [jI_s]
        exact ihk hu
      · obtain ⟨g1, g2, g3, g4, g5, g6⟩ := idle (Or.inr (Or.inl rfl))
        rw [if_neg (by decide), if_neg (by decide), g1, Option.bind_some, if_pos rfl]
        unfold b_X9_value_124
        rw [g1, Option.bind_some, if_pos rfl]
        unfold b_X9_value_156
        dsimp only [lt_]
        rw [g2, g3, g4, g5, g6] at ihk
        rw [jI_s]
        exact ihk hu
      · obtain ⟨g1, g2, g3, g4, g5, g6⟩ := idle (Or.inr (Or.inr rfl))
        rw [if_neg (by decide), if_neg (by decide), g1, Option.bind_some, if_pos rfl]
        unfold b_X9_value_124
        rw [g1, Option.bind_some, if_pos rfl]
        unfold b_X9_value_156
        dsimp only [lt_]
        rw [g2, g3, g4, g5, g6] at ihk
        rw [jI_s]
        exact ihk hu
      · -- digits behind the point
        obtain ⟨g1, g2, g3, g4, g5, g6, g7⟩ := digs (Or.inr rfl)
        have g8 : tS f (k + 1) = tS f k + 1 := hS.trans (if_pos rfl)
        rw [if_neg (by decide), if_neg (by decide), g1, Option.bind_some, if_neg (by decide), if_pos (by decide)]
        unfold b_X9_value_124
        rw [g1, Option.bind_some, if_neg (by decide)]
        by_cases h : tU f k ≤ 99999999999999999
        · rw [long h g3 g2, Option.bind_some]
          rw [g4, g5, g6, g7, g8] at ihk
          dsimp only [bs]
          rw [if_pos (by decide)]
          unfold b_X9_value_154 b_X9_value_156
          dsimp only [lt_]
          rw [jI_s, jI_s]
          exact ihk (by omega)
        · obtain ⟨o1, o2⟩ := over h (Or.inr rfl)
          rw [o2, o1]
          rfl
      · -- the sign of the exponent
        rw [if_neg (by decide), if_pos (by decide)]
        have u1 : tU f (k + 1) = tU f k := hU.trans (if_neg (by decide))
        have u2 : tS f (k + 1) = tS f k := hS.trans (if_neg (by decide))
        have u3 : tE f (k + 1) = tE f k := hE.trans (if_neg (by decide))
        have u4 : tN f (k + 1) = tN f k := hNn.trans (if_neg (by decide))
        have u5 : tX f (k + 1) = decide (f k = 45) := hX.trans (if_pos rfl)
        rw [u1, u2, u3, u4, u5] at ihk
        unfold b_X9_value_88 b_X9_value_156
        dsimp only [lt_]
        rw [jI_s]
        by_cases h : f k = 45
        · rw [decide_eq_true h] at ihk
          rw [if_pos h]
          exact ihk hu
        · rw [decide_eq_false h] at ihk
          rw [if_neg h]
          exact ihk hu
      · obtain ⟨g1, g2, g3, g4, g5, g6⟩ := expo (Or.inl rfl)
        rw [if_neg (by decide), if_neg (by decide), g1, Option.bind_some, if_neg (by decide), if_neg (by decide)]
        unfold b_X9_value_156
        dsimp only [lt_]
        rw [g3, g4, g5, g6] at ihk
        rw [jI_s, g2]
        exact ihk hu
      · obtain ⟨g1, g2, g3, g4, g5, g6⟩ := expo (Or.inr (Or.inl rfl))
        rw [if_neg (by decide), if_neg (by decide), g1, Option.bind_some, if_neg (by decide), if_neg (by decide)]
        unfold b_X9_value_156
        dsimp only [lt_]
        rw [g3, g4, g5, g6] at ihk
        rw [jI_s, g2]
        exact ihk hu
      · obtain ⟨g1, g2, g3, g4, g5, g6⟩ := expo (Or.inr (Or.inr rfl))
        rw [if_neg (by decide), if_neg (by decide), g1, Option.bind_some, if_neg (by decide), if_neg (by decide)]
        unfold b_X9_value_156
        dsimp only [lt_]
        rw [g3, g4, g5, g6] at ihk
        rw [jI_s, g2]
        exact ihk hu
theorem x_textValue {N : Nat} (hG : Gk ni A W) (l1 : len ≤ 24) (l2 : K.1 2 0 1 = iI (len : Nat)) (l4 : ∀ i, i < len → K.1 3 0 i = f i) (ok : ∀ j, j ≤ len → okS (stT f j)) (hN : 100 ≤ N) : f_X9_value N (ovk A W K σ) sz (A 2 0) = vQ (chk (sgn (tN f len) (tU f len)) (tZ f len)) (ovk A W K σ) sz := by
  unfold f_X9_value b_X9_value_19
  exact x_value_loop hG l1 l2 l4 ok N N 0 (Nat.zero_le _) (by omega) (by show 0 < 1000000000000000000; decide)
end RD
