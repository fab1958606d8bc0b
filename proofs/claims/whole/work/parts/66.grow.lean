/-! ===== one more invoice ===== -/
def gA (A : AM) (ni sz : Nat) : AM := fun g j => if j = ni ∧ 29 ≤ g ∧ g ≤ 31 then sz + (g - 29) else A g j
def gW (W : WM) (ni sz : Nat) : WM := fun a => if sz ≤ a ∧ a ≤ sz + 2 then some (a - sz + 29, ni) else W a
theorem Lv_grow {ni g j : Nat} : Lv (ni + 1) g j ↔ Lv ni g j ∨ (j = ni ∧ 29 ≤ g ∧ g ≤ 31) := by
  by_cases h29 : g = 29
  · subst h29
    show j < ni + 1 ↔ j < ni ∨ _
    omega
  by_cases h30 : g = 30
  · subst h30
    show j < ni + 1 ↔ j < ni ∨ _
    omega
  by_cases h31 : g = 31
  · subst h31
    show j < ni + 1 ↔ j < ni ∨ _
    omega
  have : Lv (ni + 1) g j = Lv ni g j := by
    unfold Lv
    split <;> first | rfl | omega
  rw [this]
  constructor
  · exact Or.inl
  · rintro (h | h)
    · exact h
    · omega
theorem Lv_hi {ni g j : Nat} (h : Lv ni g j) (hg : 29 ≤ g ∧ g ≤ 31) : j < ni := by
  by_cases h29 : g = 29
  · subst h29; exact h
  by_cases h30 : g = 30
  · subst h30; exact h
  have h31 : g = 31 := by omega
  subst h31
  exact h
theorem Gk.grow {ni sz : Nat} {A : AM} {W : WM} {K : KS} {σ : Sto} (h : Gk ni A W) (hH : Hk A W K σ) (hF : Fr σ sz) : Gk (ni + 1) (gA A ni sz) (gW W ni sz) := by
  have lo : ∀ a q, W a = some q → a < sz := fun a q hq => Nat.not_le.mp fun w => by
    have := hH a q hq
    rw [hF a w] at this
    cases this
  refine ⟨fun g j hl => ?_, fun a g j hw => ?_⟩
  · rcases Lv_grow.mp hl with h1 | ⟨h1, h2, h3⟩
    · have e : gA A ni sz g j = A g j := by
        unfold gA
        rw [if_neg (fun w => by have := Lv_hi h1 w.2; omega)]
      have hlt := lo _ _ (h.1 g j h1)
      rw [e]
      unfold gW
      rw [if_neg (by omega)]
      exact h.1 g j h1
    · have e : gA A ni sz g j = sz + (g - 29) := by
        unfold gA
        rw [if_pos ⟨h1, h2, h3⟩]
      rw [e]
      unfold gW
      rw [if_pos (by omega), show sz + (g - 29) - sz + 29 = g by omega, h1]
  · unfold gW at hw
    by_cases ha : sz ≤ a ∧ a ≤ sz + 2
    · rw [if_pos ha] at hw
      have e := Option.some.inj hw
      have e1 : a - sz + 29 = g := congrArg Prod.fst e
      have e2 : ni = j := congrArg Prod.snd e
      refine ⟨?_, Lv_grow.mpr (Or.inr ⟨e2.symm, by omega, by omega⟩)⟩
      unfold gA
      rw [if_pos ⟨e2.symm, by omega, by omega⟩]
      omega
    · rw [if_neg ha] at hw
      obtain ⟨h1, h2⟩ := h.2 a g j hw
      refine ⟨?_, Lv_grow.mpr (Or.inl h2)⟩
      unfold gA
      rw [if_neg (fun w => by have := Lv_hi h2 w.2; omega)]
      exact h1
theorem pF_ex {σ : Sto} {a c k : Nat} {V : Nat → Value} {v : Value} (h : σ a = some (.inl (c, V))) : ∃ τ, pF σ a c k v = some τ ∧ τ a = some (.inl (c, va_up V k v)) ∧ ∀ b, b ≠ a → τ b = σ b := by
  refine ⟨va_up σ a (some (.inl (c, va_up V k v))), ?_, va_up_self _ _ _, fun b hb => va_up_ne _ _ hb⟩
  unfold pF
  rw [h]
  exact if_pos rfl
theorem x_newInv {σ : Sto} {sz : Nat} {v1 v2 v3 : Int32} (hz : okZ v3 = true) : ∃ τ V, f_X2_init (nO σ sz 2 dvX2) (sz + 1) sz v1 v2 v3 = some ((), τ, sz + 1 + 2) ∧ τ sz = some (.inl (2, V)) ∧ V = va_up (va_up (va_up (va_up (va_up (va_up dvX2 2 (.int 0)) 4 (.ref (sz + 1))) 5 (.ref (sz + 1 + 1))) 0 (.int v1)) 1 (.int v2)) 3 (.int v3) ∧ τ (sz + 1) = some (.inr (2, 12, z2)) ∧ τ (sz + 2) = some (.inr (1, 12, z1)) ∧ ∀ a, a < sz ∨ sz + 2 < a → τ a = σ a := by
  have h0 : nO σ sz 2 dvX2 sz = some (.inl (2, dvX2)) := va_up_self _ _ _
  have h0' : ∀ b, b ≠ sz → nO σ sz 2 dvX2 b = σ b := fun b hb => va_up_ne _ _ hb
  obtain ⟨τ1, a1, a2, a3⟩ := pF_ex (k := 2) (v := .int 0) h0
  have b2' : nA τ1 (sz + 1) 2 12 z2 sz = τ1 sz := va_up_ne _ _ (by omega)
  obtain ⟨τ3, c1, c2, c3⟩ := pF_ex (k := 4) (v := .ref (sz + 1)) (b2'.trans a2)
  have d2 : nA τ3 (sz + 1 + 1) 1 12 z1 sz = τ3 sz := va_up_ne _ _ (by omega)
  obtain ⟨τ5, e1, e2, e3⟩ := pF_ex (k := 5) (v := .ref (sz + 1 + 1)) (d2.trans c2)
  obtain ⟨τ6, f1, f2, f3⟩ := pF_ex (k := 0) (v := .int v1) e2
  obtain ⟨τ7, g1, g2, g3⟩ := pF_ex (k := 1) (v := .int v2) f2
  obtain ⟨τ8, i1, i2, i3⟩ := pF_ex (k := 3) (v := .int v3) g2
  have low : ∀ b, b ≠ sz → τ8 b = nA τ3 (sz + 1 + 1) 1 12 z1 b := fun b hb => by rw [i3 b hb, g3 b hb, f3 b hb, e3 b hb]
  refine ⟨τ8, _, ?_, i2, rfl, ?_, ?_, fun a ha => ?_⟩
  · unfold f_X2_init
    dsimp only [lt_]
    rw [a1, Option.bind_some, c1, Option.bind_some, e1, Option.bind_some, f1, Option.bind_some, g1, Option.bind_some, if_pos hz, i1, Option.bind_some]
  · rw [low _ (by omega)]
    have : nA τ3 (sz + 1 + 1) 1 12 z1 (sz + 1) = τ3 (sz + 1) := va_up_ne _ _ (by omega)
    rw [this, c3 _ (by omega)]
    exact va_up_self _ _ _
  · rw [low _ (by omega)]
    exact va_up_self _ _ _
  · rw [low _ (by omega)]
    have t1 : nA τ3 (sz + 1 + 1) 1 12 z1 a = τ3 a := va_up_ne _ _ (by omega)
    have t2 : nA τ1 (sz + 1) 2 12 z2 a = τ1 a := va_up_ne _ _ (by omega)
    rw [t1, c3 a (by omega), t2, a3 a (by omega), h0' a (by omega)]
theorem getD_le {l : List Nat} {d b : Nat} (h : ∀ x, x ∈ l → x ≤ b) (hd : d ≤ b) : ∀ q, l.getD q d ≤ b := by
  induction l with
  | nil => intro q; exact hd
  | cons x l ih =>
    intro q
    cases q with
    | zero => exact h x (List.mem_cons_self ..)
    | succ q => exact ih (fun y hy => h y (List.mem_cons_of_mem _ hy)) q
theorem fk_le {g q : Nat} (hg : g ≠ 29) : fk g q ≤ 31 := by
  unfold fk
  split
  · exact getD_le (by decide) (by decide) q
  · exact getD_le (by decide) (by decide) q
  · exact getD_le (by decide) (by decide) q
  · exact getD_le (by decide) (by decide) q
  · exact getD_le (by decide) (by decide) q
  · exact getD_le (by decide) (by decide) q
  · exact absurd rfl hg
  · exact Nat.zero_le _
def gKK (K : KS) (ni : Nat) (v1 v2 v3 : Int32) : KS := (fun g j k => if j = ni ∧ g = 29 then (if k = 0 then v1 else if k = 1 then v2 else if k = 3 then v3 else 0) else if j = ni ∧ g = 31 then 0 else K.1 g j k, fun g j k => if j = ni ∧ g = 30 then 0 else K.2.1 g j k, K.2.2)
theorem kEnt_old {A : AM} {K : KS} {ni sz g j : Nat} {v1 v2 v3 : Int32} (hl : Lv ni g j) : kEnt (gA A ni sz) (gKK K ni v1 v2 v3) g j = kEnt A K g j := by
  have nj : ¬ (j = ni ∧ 29 ≤ g ∧ g ≤ 31) := fun w => by have := Lv_hi hl w.2; omega
  have e1 : (gKK K ni v1 v2 v3).1 g j = K.1 g j := by
    funext k
    show (if j = ni ∧ g = 29 then _ else if j = ni ∧ g = 31 then 0 else K.1 g j k) = _
    rw [if_neg (by omega), if_neg (by omega)]
  have e2 : (gKK K ni v1 v2 v3).2.1 g j = K.2.1 g j := by
    funext k
    show (if j = ni ∧ g = 30 then 0 else K.2.1 g j k) = _
    rw [if_neg (by omega)]
  have e3 : (gKK K ni v1 v2 v3).2.2 = K.2.2 := rfl
  have hA : ∀ c j', c ≤ 28 → gA A ni sz c j' = A c j' := fun c j' hc => by unfold gA; rw [if_neg (by omega)]
  have ev : ∀ q, fv (gA A ni sz) (K.1 g j) (K.2.1 g j) (fk g q) q j = fv A (K.1 g j) (K.2.1 g j) (fk g q) q j := by
    intro q
    have hc : ∀ c, fk g q = c + 3 → gA A ni sz c j = A c j := by
      intro c h
      by_cases h29 : g = 29
      · unfold gA
        rw [if_neg (by omega)]
      · have := fk_le (q := q) h29
        exact hA c j (by omega)
    generalize fk g q = z at hc
    unfold fv
    split
    · rfl
    · rfl
    · rfl
    · rename_i c
      rw [hc c rfl]
  have er : ∀ r, rk (gA A ni sz) r g = rk A r g := by
    intro r
    funext i
    unfold rk
    split
    · rw [hA 25 i (by decide)]
    · rw [hA 26 _ (by decide)]
    · rw [hA 26 _ (by decide)]
    · rfl
  unfold kEnt kE
  rw [e1, e2, e3, er]
  simp only [ev]
theorem Hk.grow {ni sz : Nat} {A : AM} {W : WM} {K : KS} {σ τ : Sto} {v1 v2 v3 : Int32} {V : Nat → Value} (hG : Gk ni A W) (hH : Hk A W K σ) (hF : Fr σ sz) (h0 : τ sz = some (.inl (2, V))) (hV : V = va_up (va_up (va_up (va_up (va_up (va_up dvX2 2 (.int 0)) 4 (.ref (sz + 1))) 5 (.ref (sz + 1 + 1))) 0 (.int v1)) 1 (.int v2)) 3 (.int v3)) (h1 : τ (sz + 1) = some (.inr (2, 12, z2))) (h2 : τ (sz + 2) = some (.inr (1, 12, z1))) (h3 : ∀ a, a < sz → τ a = σ a) : Hk (gA A ni sz) (gW W ni sz) (gKK K ni v1 v2 v3) τ := by
  intro a q hw
  unfold gW at hw
  by_cases ha : sz ≤ a ∧ a ≤ sz + 2
  · rw [if_pos ha] at hw
    have e := (Option.some.inj hw).symm
    rw [e]
    by_cases c0 : a = sz
    · subst c0
      rw [h0, show a - a + 29 = 29 by omega]
      have eV : V = fun q => fv (gA A ni a) ((gKK K ni v1 v2 v3).1 29 ni) ((gKK K ni v1 v2 v3).2.1 29 ni) (fk 29 q) q ni := by
        have k0 : (gKK K ni v1 v2 v3).1 29 ni = fun k => if k = 0 then v1 else if k = 1 then v2 else if k = 3 then v3 else 0 := by
          funext k
          exact if_pos ⟨rfl, rfl⟩
        have a30 : gA A ni a 30 ni = a + 1 := by unfold gA; rw [if_pos ⟨rfl, by decide, by decide⟩]
        have a31 : gA A ni a 31 ni = a + 2 := by unfold gA; rw [if_pos ⟨rfl, by decide, by decide⟩]
        rw [k0]
        funext q
        rw [hV]
        unfold va_up
        match q with
        | 0 => rfl
        | 1 => rfl
        | 2 => rfl
        | 3 => rfl
        | 4 => show Value.ref (a + 1) = Value.ref (gA A ni a 30 ni); rw [a30]
        | 5 => show Value.ref (a + 1 + 1) = Value.ref (gA A ni a 31 ni); rw [a31]
        | q + 6 => rfl
      exact congrArg (fun v => some (Sum.inl (2, v))) eV
    · by_cases c1 : a = sz + 1
      · subst c1
        rw [h1, show sz + 1 - sz + 29 = 30 by omega]
        have : (gKK K ni v1 v2 v3).2.1 30 ni = fun _ => 0 := by funext k; exact if_pos ⟨rfl, rfl⟩
        show _ = some (Sum.inr (2, 12, Sum.inr (Sum.inl ((gKK K ni v1 v2 v3).2.1 30 ni))))
        rw [this]
        rfl
      · have c2 : a = sz + 2 := by omega
        subst c2
        rw [h2, show sz + 2 - sz + 29 = 31 by omega]
        have : (gKK K ni v1 v2 v3).1 31 ni = fun _ => 0 := by
          funext k
          exact (if_neg (by omega)).trans (if_pos ⟨rfl, rfl⟩)
        show _ = some (Sum.inr (1, 12, Sum.inl ((gKK K ni v1 v2 v3).1 31 ni)))
        rw [this]
        rfl
  · rw [if_neg ha] at hw
    have h := hH a q hw
    have lt : a < sz := Nat.not_le.mp fun w => by rw [hF a w] at h; cases h
    rw [h3 a lt, h, kEnt_old (hG.2 a q.1 q.2 hw).2]
theorem Cf.grow {mb ni sz : Nat} {A : AM} {W : WM} {K : KS} {M : MS} {σ τ : Sto} {v1 v2 v3 : Int32} {V : Nat → Value} (h : Cf mb ni A W K M σ) (hF : Fr σ sz) (h0 : τ sz = some (.inl (2, V))) (hV : V = va_up (va_up (va_up (va_up (va_up (va_up dvX2 2 (.int 0)) 4 (.ref (sz + 1))) 5 (.ref (sz + 1 + 1))) 0 (.int v1)) 1 (.int v2)) 3 (.int v3)) (h1 : τ (sz + 1) = some (.inr (2, 12, z2))) (h2 : τ (sz + 2) = some (.inr (1, 12, z1))) (h3 : ∀ a, a < sz → τ a = σ a) : Cf mb (ni + 1) (gA A ni sz) (gW W ni sz) (gKK K ni v1 v2 v3) M τ := by
  obtain ⟨d1, d2, d3, d4, f, d5⟩ := Cf.mk_ h hF h3
  have hm : mb + 41 < sz := Nat.not_le.mp fun w => by
    obtain ⟨g, hg⟩ := h.2.2.2.2
    rw [hF _ w] at hg
    cases hg
  refine ⟨h.1.grow h.2.1 hF, Hk.grow h.1 h.2.1 hF h0 hV h1 h2 h3, d3, fun a x y => ?_, f, d5⟩
  unfold gW
  rw [if_neg (by omega)]
  exact d4 a x y
