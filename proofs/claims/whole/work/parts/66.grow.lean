/-! ===== one more invoice ===== -/
def gA (A : AM) (ni sz : Nat) : AM := fun g j => if j = ni ∧ 29 ≤ g ∧ g ≤ 31 then sz + (g - 29) else A g j
def gW (W : WM) (ni sz : Nat) : WM := fun a => if sz ≤ a ∧ a ≤ sz + 2 then some (a - sz + 29, ni) else W a
theorem Lv_grow {ni g j : Nat} : Lv (ni + 1) g j ↔ Lv ni g j ∨ (j = ni ∧ 29 ≤ g ∧ g ≤ 31) := by
  by_cases h29 : g = 29
  · subst h29
    show j < ni + 1 ↔ j < ni ∨ _
    omega
  by_cases h30 : g = 30
  · subst h30
    show j < ni + 1 ↔ j < ni ∨ _
    omega
  by_cases h31 : g = 31
  · subst h31
    show j < ni + 1 ↔ j < ni ∨ _
    omega
  have : Lv (ni + 1) g j = Lv ni g j := by
    unfold Lv
    split <;> first | rfl | omega
  rw [this]
  constructor
  · exact Or.inl
  · rintro (h | h)
    · exact h
    · omega
theorem Lv_hi {ni g j : Nat} (h : Lv ni g j) (hg : 29 ≤ g ∧ g ≤ 31) : j < ni := by
  by_cases h29 : g = 29
  · subst h29; exact h
  by_cases h30 : g = 30
  · subst h30; exact h
  have h31 : g = 31 := by omega
  subst h31
  exact h
theorem Gk.grow {ni sz : Nat} {A : AM} {W : WM} {K : KS} {σ : Sto} (h : Gk ni A W) (hH : Hk A W K σ) (hF : Fr σ sz) : Gk (ni + 1) (gA A ni sz) (gW W ni sz) := by
  have lo : ∀ a q, W a = some q → a < sz := fun a q hq => Nat.not_le.mp fun w => by
    have := hH a q hq
    rw [hF a w] at this
    cases this
  refine ⟨fun g j hl => ?_, fun a g j hw => ?_⟩
  · rcases Lv_grow.mp hl with h1 | ⟨h1, h2, h3⟩
    · have e : gA A ni sz g j = A g j := by
        unfold gA
        rw [if_neg (fun w => by have := Lv_hi h1 w.2; omega)]
      have hlt := lo _ _ (h.1 g j h1)
      rw [e]
      unfold gW
      rw [if_neg (by omega)]
      exact h.1 g j h1
    · have e : gA A ni sz g j = sz + (g - 29) := by
        unfold gA
        rw [if_pos ⟨h1, h2, h3⟩]
      rw [e]
      unfold gW
      rw [if_pos (by omega), show sz + (g - 29) - sz + 29 = g by omega, h1]
  · unfold gW at hw
    by_cases ha : sz ≤ a ∧ a ≤ sz + 2
    · rw [if_pos ha] at hw
      have e := Option.some.inj hw
      have e1 : a - sz + 29 = g := congrArg Prod.fst e
      have e2 : ni = j := congrArg Prod.snd e
      refine ⟨?_, Lv_grow.mpr (Or.inr ⟨e2.symm, by omega, by omega⟩)⟩
      unfold gA
      rw [if_pos ⟨e2.symm, by omega, by omega⟩]
      omega
    · rw [if_neg ha] at hw
      obtain ⟨h1, h2⟩ := h.2 a g j hw
      refine ⟨?_, Lv_grow.mpr (Or.inl h2)⟩
      unfold gA
      rw [if_neg (fun w => by have := Lv_hi h2 w.2; omega)]
      exact h1
