/-! ===== acts and entries kept in step ===== -/
section LE2
variable {mb ni c a : Nat} {sh : Int} {S : Nat → Nat} {A : AM} {W : WM} {K : KS} {M : MS} {σ : Sto}
theorem LE.note {b : Int} {M2 : MS} {d : Nat} (hni : ni ≤ 20) (h : LE ni c a sh S K M) (hle : a ≤ c + bkN (M.2.1 50) a) (ha : a < 220) (hd : d ≤ 9999) (hb : -1 ≤ b ∧ b < ni) (hm : (b = -1 ∧ M2 = nM M a c (iI (d : Nat)) (iI b)) ∨ ∃ v : Nat, b = v ∧ M.2.1 26 v ≠ 1 ∧ M2 = uA (nM M a c (iI (d : Nat)) (iI b)) 26 v 1) : LE ni c (a + 1) sh (fun i => if i = a then c else S i) (nK K a c (iI (d : Nat)) (iI b)) M2 ∧ bkN (M2.2.1 50) (a + 1) = bkN (M.2.1 50) a + (if b = -1 then 0 else 1) := by
  obtain ⟨l1, l2, l3, l4, ⟨q1, q2, q3, q4, q5, q6⟩, l5, l6, l7, l8, l9, l10⟩ := h
  obtain ⟨m46, m47, m51⟩ : M2.1 46 = M.1 46 ∧ M2.1 47 = M.1 47 ∧ M2.1 51 = iI ((a + 1 : Nat) : Int) := by
    rcases hm with ⟨-, e⟩ | ⟨v, -, -, e⟩ <;> rw [e] <;> exact ⟨rfl, rfl, rfl⟩
  have m5 : M2.2.2 = M.2.2 := by
    rcases hm with ⟨-, e⟩ | ⟨v, -, -, e⟩ <;> rw [e] <;> rfl
  have m4 : ∀ k, k < 48 → k ≠ 26 → M2.2.1 k = M.2.1 k := by
    intro k h1 h2
    funext i
    rcases hm with ⟨-, e⟩ | ⟨v, -, -, e⟩ <;> rw [e] <;> simp only [nM, uA_v, uI_o]
    · rw [if_neg (by omega), if_neg (by omega), if_neg (by omega)]
    · rw [if_neg (by omega), if_neg (by omega), if_neg (by omega), if_neg (by omega)]
  have m50 : ∀ i, M2.2.1 50 i = if i = a then iI b else M.2.1 50 i := by
    intro i
    rcases hm with ⟨-, e⟩ | ⟨v, -, -, e⟩ <;> rw [e] <;> simp only [nM, uA_v, uI_o, Nat.reduceEqDiff, false_and, true_and, if_false]
  have m49 : ∀ i, M2.2.1 49 i = if i = a then iI (d : Nat) else M.2.1 49 i := by
    intro i
    rcases hm with ⟨-, e⟩ | ⟨v, -, -, e⟩ <;> rw [e] <;> simp only [nM, uA_v, uI_o, Nat.reduceEqDiff, false_and, true_and, if_false]
  have m48 : ∀ i, M2.2.1 48 i = if i = a then iI (c : Nat) else M.2.1 48 i := by
    intro i
    rcases hm with ⟨-, e⟩ | ⟨v, -, -, e⟩ <;> rw [e] <;> simp only [nM, uA_v, uI_o, Nat.reduceEqDiff, false_and, true_and, if_false]
  have bka : bkN (M2.2.1 50) a = bkN (M.2.1 50) a := bkN_c (fun i hi => by rw [m50, if_neg (by omega)])
  have eb : ∀ v : Int, -1 ≤ v → v < 100 → (iI b = iI v ↔ b = v) := fun v h1 h2 => iI_eq ⟨by omega, by omega⟩ ⟨by omega, by omega⟩
  have bk1 : bkN (M2.2.1 50) (a + 1) = bkN (M.2.1 50) a + (if b = -1 then 0 else 1) := by
    show bkN (M2.2.1 50) a + _ = _
    rw [bka, m50, if_pos rfl]
    by_cases e : b = -1
    · rw [if_pos e, if_pos ((eb (-1) (by omega) (by omega)).mpr e)]
    · rw [if_neg e, if_neg (fun w => e ((eb (-1) (by omega) (by omega)).mp w))]
  refine ⟨⟨l1, by omega, l3, l4, ⟨?_, by rw [m46]; exact q2, ?_, m51, ?_, by rw [m47]; exact q6⟩, ?_, ?_, ?_, ?_, ?_, ?_⟩, bk1⟩
  · simp only [nK, kI_v, Nat.reduceEqDiff, false_and, and_false, if_false]
    exact q1
  · simp only [nK, kI_v, and_self, if_true]
  · simp only [nK, kI_v, Nat.reduceEqDiff, false_and, and_false, if_false]
    exact q5
  · intro i hi
    rw [m4 42 (by decide) (by decide), m4 43 (by decide) (by decide), m4 44 (by decide) (by decide), m5]
    simp only [nK, kI_v, kI_o, Nat.reduceEqDiff, false_and, if_false]
    exact l5 i hi
  · intro i hi
    rw [m50, m49, m48]
    simp only [nK, kI_v, Nat.reduceEqDiff, false_and, if_false, true_and]
    by_cases e : i = a
    · simp only [e, if_true]
      exact ⟨⟨d, b, hd, hb.1, hb.2, rfl, rfl, rfl, rfl⟩, trivial, trivial, Nat.le_refl _, by rw [bka]; exact hle⟩
    · simp only [if_neg e]
      have h6 := l6 i (by omega)
      refine ⟨h6.1, h6.2.1, h6.2.2.1, h6.2.2.2.1, ?_⟩
      rw [bkN_c (g := M.2.1 50) (fun j hj => by rw [m50, if_neg (by omega)])]
      exact h6.2.2.2.2
  · intro i j h1 h2
    dsimp only
    by_cases e : i = a
    · rw [if_pos e, if_pos (by omega)]; exact Nat.le_refl _
    · rw [if_neg e]
      by_cases e2 : j = a
      · rw [if_pos e2]; exact (l6 i (by omega)).2.2.2.1
      · rw [if_neg e2]; exact l7 i j h1 (by omega)
  · have key : ∀ i, i < a → M.2.1 50 i = iI b → b = -1 := by
      intro i hi he
      rcases hm with ⟨e, -⟩ | ⟨v, e, hv, -⟩
      · exact e
      · have := ((l9 v (by omega)).2).mpr ⟨i, hi, by rw [he, e]⟩
        exact absurd this hv
    intro i i' h1 h2
    rw [m50, m50]
    by_cases e : i = a
    · rw [if_pos e]
      by_cases e2 : i' = a
      · exact fun _ => Or.inr (by omega)
      · rw [if_neg e2]
        exact fun w => Or.inl (by rw [key i' (by omega) w.symm])
    · rw [if_neg e]
      by_cases e2 : i' = a
      · rw [if_pos e2]
        exact fun w => Or.inl (by rw [w, key i (by omega) w])
      · rw [if_neg e2]
        exact l8 i i' (by omega) (by omega)
  · intro v hv
    have ex : (∃ i, i < a + 1 ∧ M2.2.1 50 i = iI (v : Nat)) ↔ ((∃ i, i < a ∧ M.2.1 50 i = iI (v : Nat)) ∨ b = v) := by
      constructor
      · rintro ⟨i, h1, h2⟩
        rw [m50] at h2
        by_cases e : i = a
        · rw [if_pos e] at h2
          exact Or.inr ((eb v (by omega) (by omega)).mp h2)
        · rw [if_neg e] at h2
          exact Or.inl ⟨i, by omega, h2⟩
      · rintro (⟨i, h1, h2⟩ | h)
        · exact ⟨i, by omega, by rw [m50, if_neg (by omega)]; exact h2⟩
        · exact ⟨a, by omega, by rw [m50, if_pos rfl, h]⟩
    rw [ex]
    rcases hm with ⟨e, e2⟩ | ⟨w, e, hw, e2⟩
    · have : M2.2.1 26 v = M.2.1 26 v := by rw [e2]; simp only [nM, uA_v, uI_o, Nat.reduceEqDiff, false_and, if_false]
      rw [this]
      refine ⟨(l9 v hv).1, (l9 v hv).2.trans ⟨Or.inl, fun w => ?_⟩⟩
      rcases w with w | w
      · exact w
      · omega
    · have e3 : M2.2.1 26 v = if v = w then 1 else M.2.1 26 v := by rw [e2]; simp only [nM, uA_v, uI_o, Nat.reduceEqDiff, false_and, if_false, true_and]
      rw [e3]
      by_cases h : v = w
      · rw [if_pos h]
        exact ⟨Or.inr rfl, fun _ => Or.inr (by omega), fun _ => rfl⟩
      · rw [if_neg h]
        refine ⟨(l9 v hv).1, (l9 v hv).2.trans ⟨Or.inl, fun w => ?_⟩⟩
        rcases w with w | w
        · exact w
        · omega
  · rw [bk1, l10]
    rcases hm with ⟨e, e2⟩ | ⟨w, e, hw, e2⟩
    · rw [if_pos e]
      exact flags_c (fun i _ => by rw [e2]; simp only [nM, uA_v, uI_o, Nat.reduceEqDiff, false_and, if_false])
    · rw [if_neg (by omega)]
      refine (flags_set (v := w) (by omega) hw ?_ (fun i hi => ?_)).symm
      · rw [e2]; simp only [uA_v, and_self, if_true]
      · rw [e2]; simp only [nM, uA_v, uI_o, Nat.reduceEqDiff, false_and, if_false, true_and, if_neg hi]
theorem LE.enter {x y d : Nat} {v : Int64} (h : LE ni c (a + 1) sh S K M) (hc : c < 200) (hx : x ≤ 99) (hy : y ≤ 99) (hd : M.2.1 49 a = iI (d : Nat)) (hd2 : d ≤ 9999) : LE ni (c + 1) (a + 1) sh S (eK K a c (iI (x : Nat)) (iI (y : Nat)) v) (eM M c (iI (d : Nat)) (iI (x : Nat)) (iI (y : Nat)) v) := by
  obtain ⟨l1, l2, l3, l4, ⟨q1, q2, q3, q4, q5, q6⟩, l5, l6, l7, l8, l9, l10⟩ := h
  have kd : K.1 22 0 a = iI (d : Nat) := by
    obtain ⟨⟨d', b, g1, g2, g3, g4, g5, -, -⟩, -⟩ := l6 a (by omega)
    exact g4.trans (g5.symm.trans hd)
  refine ⟨by omega, l2, l3, l4, ⟨?_, ?_, ?_, q4, ?_, q6⟩, ?_, ?_, l7, l8, l9, l10⟩
  · simp only [eK, kI_v, and_self, if_true]
  · simp only [eM, uI_v, if_true]
  · simp only [eK, kI_v, kL_o, Nat.reduceEqDiff, false_and, and_false, if_false]
    exact q3
  · simp only [eK, kI_v, kL_o, Nat.reduceEqDiff, false_and, and_false, if_false]
    exact q5
  · intro i hi
    simp only [eK, eM, kI_v, kL_o, kL_v, kI_o, uI_o, uL_a, uL_v, uA_v, uA_l, Nat.reduceEqDiff, false_and, true_and, if_false]
    by_cases e : i = c
    · simp only [e, if_true]
      exact ⟨⟨x, y, d, hx, hy, hd2, rfl, rfl, rfl, rfl, kd, rfl⟩, trivial⟩
    · simp only [if_neg e]
      exact l5 i (by omega)
  · intro i hi
    have h6 := l6 i hi
    simp only [eK, eM, kI_v, kL_o, kL_v, kI_o, uI_o, uL_a, uL_v, uA_v, uA_l, Nat.reduceEqDiff, false_and, true_and, if_false]
    obtain ⟨g1, g2, g3, g4, g5⟩ := h6
    refine ⟨g1, g2, g3, by omega, ?_⟩
    exact g5
end LE2
