/-! ===== the invariant: class and reference side by side ===== -/
/-- the reference's cells hold M -/
def Hm (mb : Nat) (M : MS) (σ : Sto) : Prop := ov mb M σ = σ
def Cf (mb ni : Nat) (A : AM) (W : WM) (K : KS) (M : MS) (σ : Sto) : Prop := Gk ni A W ∧ Hk A W K σ ∧ Hm mb M σ ∧ (∀ a, mb ≤ a → a < mb + 42 → W a = none) ∧ ∃ f, σ (mb + 41) = some (.inr (2, 1, .inr (.inl f)))
/-- shelves -/
def RV (K : KS) (M : MS) (σ : Sto) : Prop := ∀ k, k < 12 → (K.2.2.1 1 k = none ∧ M.2.1 5 k = 0) ∨ ∃ p u s, K.2.2.1 1 k = some p ∧ Val σ p u s ∧ RgV u s ∧ MV M k u s
/-- the text -/
def RT (K : KS) (M : MS) : Prop := ∃ len : Nat, len ≤ 24 ∧ K.1 2 0 1 = iI (len : Nat) ∧ M.1 7 = iI (len : Nat) ∧ ∀ i, i < len → K.1 3 0 i = M.2.1 6 i
/-- currencies -/
def RC (K : KS) (M : MS) : Prop := ∀ c, c < 4 → ∃ (d co : Nat) (m : Int32), d ≤ 3 ∧ okM m = true ∧ 1 ≤ co ∧ co ≤ 100 ∧ K.1 25 c 0 = iI (d : Nat) ∧ K.1 25 c 1 = m ∧ K.1 25 c 2 = iI (co : Nat) ∧ M.2.1 9 c = iI (d : Nat) ∧ M.2.1 11 c = m ∧ M.2.1 10 c = iI (co : Nat)
/-- rates -/
def RR (K : KS) (M : MS) (σ : Sto) : Prop := ∀ k, k < 16 → (K.2.2.1 5 k = none ∧ M.2.2 12 k = 0) ∨ ∃ p u s, K.2.2.1 5 k = some p ∧ Val σ p u s ∧ RgV u s ∧ 0 < u ∧ M.2.2 12 k = iL u ∧ M.2.1 13 k = iI s
/-- what is told of a kind: places and amounts -/
def StT (T : Nat → Nat → Option Int32) (K : KS) (j k : Nat) (cnt : Nat) : Prop := K.1 26 j 2 = iI (cnt : Nat) ∧ cnt ≤ K.2.2.2 27 j ∧ K.2.2.2 28 j = K.2.2.2 27 j ∧ 4 ≤ K.2.2.2 27 j ∧ (K.2.2.2 27 j = 4 ∨ K.2.2.2 27 j ≤ 2 * cnt) ∧ (∀ i, i < cnt → ∃ p : Nat, p < 1000000 ∧ K.1 27 j i = iI (p : Nat) ∧ T k p = some (K.1 28 j i)) ∧ (∀ i i', i < cnt → i' < cnt → K.1 27 j i = K.1 27 j i' → i = i') ∧ ∀ p, T k p ≠ none → ∃ i, i < cnt ∧ K.1 27 j i = iI (p : Nat)
def MtT (T : Nat → Nat → Option Int32) (at_ row many : Nat → Int32) (n : Nat) : Prop := (∀ i, i < n → ∃ k p : Nat, k < 6 ∧ p < 1000000 ∧ at_ i = iI ((1000000 * k + p : Nat) : Int) ∧ T k p = some (row i)) ∧ (∀ i i', i < n → i' < n → at_ i = at_ i' → i = i') ∧ ∀ k p, T k p ≠ none → k < 6 ∧ p < 1000000 ∧ ∃ i, i < n ∧ at_ i = iI ((1000000 * k + p : Nat) : Int)
def RS (n : Nat) (K : KS) (M : MS) : Prop := ∃ (T D : Nat → Nat → Option Int32) (ct cd : Nat → Nat) (nt nd_ : Nat),
  (∀ k, k < 6 → ct k ≤ n ∧ StT T K (2 * k) k (ct k) ∧ M.2.1 18 k = iI (ct k : Nat)) ∧ (∀ k, k < 6 → cd k ≤ n ∧ StT D K (2 * k + 1) k (cd k) ∧ M.2.1 19 k = iI (cd k : Nat)) ∧
  nt ≤ n ∧ nd_ ≤ n ∧ M.1 20 = iI (nt : Nat) ∧ M.1 21 = iI (nd_ : Nat) ∧ MtT T (M.2.1 14) (M.2.1 15) (M.2.1 18) nt ∧ MtT D (M.2.1 16) (M.2.1 17) (M.2.1 19) nd_ ∧
  (∀ k p v, T k p = some v → ∃ z : Nat, z ≤ 9999 ∧ v = iI (z : Nat)) ∧ (∀ k p v, D k p = some v → ∃ z : Nat, z ≤ 999 ∧ v = iI (z : Nat))
/-- invoices -/
def RN (ni : Nat) (A : AM) (K : KS) (M : MS) : Prop := ni ≤ 20 ∧ K.1 0 0 7 = iI (ni : Nat) ∧ M.1 29 = iI (ni : Nat) ∧ (∀ i, ni ≤ i → i < 20 → M.2.1 24 i = 0) ∧
  ∀ i, i < ni → K.2.2.1 8 i = some (A 29 i) ∧ ∃ (d cur lc : Nat) (by_ : Bool), d ≤ 9999 ∧ cur < 4 ∧ lc ≤ 12 ∧ K.1 29 i 0 = iI (d : Nat) ∧ M.2.1 22 i = iI (d : Nat) ∧ K.1 29 i 1 = iI (cur : Nat) ∧ M.2.1 23 i = iI (cur : Nat) ∧ K.1 29 i 2 = iI (lc : Nat) ∧ M.2.1 24 i = iI (lc : Nat) ∧ K.1 29 i 3 = bI by_ ∧ M.2.1 25 i = bI by_ ∧
    ∀ j, j < lc → ∃ e t : Nat, e ≤ 9999999 * 999999 * 1000 ∧ t ≤ 9999 ∧ K.2.1 30 i j = iL (e : Nat) ∧ M.2.2 27 (12 * i + j) = iL (e : Nat) ∧ K.1 31 i j = iI (t : Nat) ∧ M.2.1 28 (12 * i + j) = iI (t : Nat)
/-- sums of longs -/
def sumL (f : Nat → Int64) : Nat → Int64
  | 0 => 0
  | n + 1 => sumL f n + f n
/-- shares -/
def RW (K : KS) (M : MS) : Prop := ∃ wc pc : Nat, wc ≤ 12 ∧ pc ≤ 12 ∧ K.1 9 0 1 = iI (wc : Nat) ∧ M.1 33 = iI (wc : Nat) ∧ K.1 9 0 3 = iI (pc : Nat) ∧ M.1 34 = iI (pc : Nat) ∧ (∀ i, i < wc → ∃ z : Nat, z ≤ 9999 ∧ K.1 10 0 i = iI (z : Nat) ∧ M.2.1 30 i = iI (z : Nat)) ∧ (∀ i, i < pc → K.2.1 11 0 i = M.2.2 31 i) ∧ K.2.1 9 0 5 = sumL (K.2.1 11 0) pc
/-- the table of instalments: what is owed ahead of one -/
def owedB (K : KS) : Nat → Int64
  | 0 => K.2.1 13 0 4
  | n + 1 => K.2.1 16 0 n
def RLo (K : KS) (M : MS) : Prop := ∃ c : Nat, c ≤ 120 ∧ K.1 13 0 3 = iI (c : Nat) ∧ M.1 41 = iI (c : Nat) ∧ (∀ i, i < c → K.2.1 14 0 i = M.2.2 35 i ∧ K.2.1 15 0 i = M.2.2 36 i ∧ K.2.1 16 0 i = M.2.2 37 i) ∧ (∀ i, i < c → K.2.1 16 0 i = owedB K i - K.2.1 15 0 i) ∧ owedB K c = 0
/-- how many invoices are booked -/
def flags (f : Nat → Int32) : Nat → Nat
  | 0 => 0
  | n + 1 => flags f n + (if f n = 1 then 1 else 0)
/-- how many of the acts are bookings -/
def bkN (f : Nat → Int32) : Nat → Nat
  | 0 => 0
  | n + 1 => bkN f n + (if f n = iI (-1) then 0 else 1)
/-- the ledger -/
def LE (ni c a : Nat) (sh : Int) (S : Nat → Nat) (K : KS) (M : MS) : Prop := c ≤ 200 ∧ a ≤ 220 ∧ -1 ≤ sh ∧ sh ≤ 9999 ∧ (K.1 17 0 4 = iI (c : Nat) ∧ M.1 46 = iI (c : Nat) ∧ K.1 17 0 8 = iI (a : Nat) ∧ M.1 51 = iI (a : Nat) ∧ K.1 17 0 9 = iI sh ∧ M.1 47 = iI sh) ∧
  (∀ i, i < c → (∃ x y d : Nat, x ≤ 99 ∧ y ≤ 99 ∧ d ≤ 9999 ∧ K.1 18 0 i = iI (x : Nat) ∧ M.2.1 43 i = iI (x : Nat) ∧ K.1 19 0 i = iI (y : Nat) ∧ M.2.1 44 i = iI (y : Nat) ∧ K.1 21 0 i = iI (d : Nat) ∧ M.2.1 42 i = iI (d : Nat)) ∧ K.2.1 20 0 i = M.2.2 45 i) ∧
  (∀ i, i < a → (∃ (d : Nat) (b : Int), d ≤ 9999 ∧ -1 ≤ b ∧ b < ni ∧ K.1 22 0 i = iI (d : Nat) ∧ M.2.1 49 i = iI (d : Nat) ∧ K.1 23 0 i = iI b ∧ M.2.1 50 i = iI b) ∧ K.1 24 0 i = iI (S i : Nat) ∧ M.2.1 48 i = iI (S i : Nat) ∧ S i ≤ c ∧ i ≤ S i + bkN (M.2.1 50) i) ∧
  (∀ i j, i ≤ j → j < a → S i ≤ S j) ∧
  (∀ i i', i < a → i' < a → M.2.1 50 i = M.2.1 50 i' → M.2.1 50 i = iI (-1) ∨ i = i') ∧
  (∀ v, v < 20 → (M.2.1 26 v = 0 ∨ M.2.1 26 v = 1) ∧ (M.2.1 26 v = 1 ↔ ∃ i, i < a ∧ M.2.1 50 i = iI (v : Nat))) ∧ bkN (M.2.1 50) a = flags (M.2.1 26) 20
def RE (ni : Nat) (K : KS) (M : MS) : Prop := ∃ (c a : Nat) (sh : Int) (S : Nat → Nat), LE ni c a sh S K M ∧ a ≤ c + bkN (M.2.1 50) a
def Rel (n ni : Nat) (A : AM) (K : KS) (M : MS) (σ : Sto) : Prop := RV K M σ ∧ RT K M ∧ RC K M ∧ RR K M σ ∧ RS n K M ∧ RN ni A K M ∧ RW K M ∧ RLo K M ∧ RE ni K M
def I0 (xb mb ob n : Nat) (σ : Sto) : Prop := ∃ (ni : Nat) (A : AM) (W : WM) (K : KS) (M : MS), A 0 0 = xb ∧ ob = mb + 41 ∧ Cf mb ni A W K M σ ∧ Rel n ni A K M σ
/-! cells apart -/
theorem ov_hi {mb a : Nat} {M : MS} {σ : Sto} (h : a < mb ∨ mb + 41 ≤ a) : ov mb M σ a = σ a := by
  unfold ov
  rw [if_neg (by omega)]
theorem ov_ov {mb : Nat} {M M' : MS} {σ : Sto} : ov mb M (ov mb M' σ) = ov mb M σ := by
  funext a
  unfold ov
  by_cases h : mb ≤ a ∧ a < mb + 41
  · rw [if_pos h, if_pos h]
  · rw [if_neg h, if_neg h, if_neg h]
theorem ov_in {mb a : Nat} {M : MS} {σ σ' : Sto} (h : ¬ (a < mb ∨ mb + 41 ≤ a)) : ov mb M σ a = ov mb M σ' a := by
  unfold ov
  rw [if_pos (by omega), if_pos (by omega)]
theorem Hm.of {mb : Nat} {M : MS} {σ τ : Sto} (h : Hm mb M σ) (he : ∀ a, mb ≤ a → a < mb + 41 → τ a = σ a) : Hm mb M τ := by
  funext a
  by_cases ha : a < mb ∨ mb + 41 ≤ a
  · exact ov_hi ha
  · rw [ov_in ha (σ' := σ), he a (by omega) (by omega)]
    exact congrFun h a
/-- a value isn't one of the class's cells, nor of the reference's -/
theorem kEnt_9 {A : AM} {K : KS} {g j : Nat} {V : Nat → Value} : kEnt A K g j ≠ .inl (9, V) := by
  unfold kEnt kE
  intro h
  have hg : ∀ n, gk g n ≠ .inl 9 := by
    intro n
    unfold gk
    split <;> intro q <;> cases q
  split at h
  · rename_i c hc
    cases h
    exact hg _ hc
  · cases h
theorem mEnt_9 {mb : Nat} {M : MS} {c : Nat} {V : Nat → Value} : mEnt mb M c ≠ some (.inl (9, V)) := by
  intro h
  cases c with
  | zero => cases h
  | succ c =>
    unfold mEnt at h
    dsimp only at h
    cases hc : mTab[c]? with
    | none => rw [hc] at h; cases h
    | some q => rw [hc] at h; cases h
section CF
variable {mb ni : Nat} {A : AM} {W : WM} {K K' : KS} {M M' : MS} {σ τ : Sto}
theorem Cf.val (h : Cf mb ni A W K M σ) {p : Nat} {u s : Int} (hv : Val σ p u s) : W p = none ∧ (p < mb ∨ mb + 41 ≤ p) ∧ p ≠ mb + 41 := by
  obtain ⟨V, h1, -, -⟩ := hv
  obtain ⟨-, c2, c3, -, f, c5⟩ := h
  refine ⟨?_, ?_, ?_⟩
  · cases hw : W p with
    | none => rfl
    | some q =>
      have := c2 p q hw
      rw [h1] at this
      exact absurd (Option.some.inj this).symm kEnt_9
  · by_cases ha : p < mb ∨ mb + 41 ≤ p
    · exact ha
    · have h2 : ov mb M σ p = some (.inl (9, V)) := by rw [c3, h1]
      unfold ov at h2
      rw [if_pos (by omega)] at h2
      exact absurd h2 mEnt_9
  · intro e
    rw [e, c5] at h1
    cases h1
/-- something fresh was made -/
theorem Cf.mk_ (h : Cf mb ni A W K M σ) {sz : Nat} (hF : Fr σ sz) (he : ∀ a, a < sz → τ a = σ a) : Cf mb ni A W K M τ := by
  obtain ⟨c1, c2, c3, c4, f, c5⟩ := h
  have lt : ∀ a x, σ a = some x → a < sz := fun a x hx => Nat.not_le.mp fun w => by rw [hF a w] at hx; cases hx
  refine ⟨c1, fun a q hw => ?_, ?_, c4, f, ?_⟩
  · rw [he a (lt a _ (c2 a q hw))]; exact c2 a q hw
  · refine Hm.of c3 (fun a h1 h2 => he a ?_)
    have : ov mb M σ a = σ a := congrFun c3 a
    have h3 : ∃ x, σ a = some x := by
      rw [← this]
      unfold ov
      rw [if_pos ⟨h1, h2⟩]
      obtain ⟨c, hc⟩ : ∃ c, a - mb = c := ⟨_, rfl⟩
      rw [hc]
      cases c with
      | zero => exact ⟨_, rfl⟩
      | succ c =>
        have hc40 : c < 40 := by omega
        have : mTab[c]? = some (mTab[c]'(hc40)) := List.getElem?_eq_getElem hc40
        unfold mEnt
        dsimp only
        rw [this]
        exact ⟨_, rfl⟩
    obtain ⟨x, hx⟩ := h3
    exact lt a x hx
  · rw [he _ (lt _ _ c5)]; exact c5
/-- the class's cells were written -/
theorem Cf.cls (h : Cf mb ni A W K M σ) : Cf mb ni A W K' M (ovk A W K' σ) := by
  obtain ⟨c1, c2, c3, c4, f, c5⟩ := h
  refine ⟨c1, Hk.ov, Hm.of c3 (fun a h1 h2 => ovk_none (c4 a h1 (by omega))), c4, f, ?_⟩
  rw [ovk_none (c4 _ (by omega) (by omega))]
  exact c5
theorem Cf.eqk (h : Cf mb ni A W K M σ) : ovk A W K σ = σ := h.2.1.eq
theorem Cf.eqm (h : Cf mb ni A W K M σ) : ov mb M σ = σ := h.2.2.1
/-- the reference's cells were written -/
theorem Cf.ref (h : Cf mb ni A W K M σ) : Cf mb ni A W K M' (ov mb M' σ) := by
  obtain ⟨c1, c2, c3, c4, f, c5⟩ := h
  refine ⟨c1, fun a q hw => ?_, ov_ov, c4, f, ?_⟩
  · rw [ov_hi]
    · exact c2 a q hw
    · by_cases ha : a < mb ∨ mb + 41 ≤ a
      · exact ha
      · rw [c4 a (by omega) (by omega)] at hw
        cases hw
  · rw [ov_hi (Or.inr (by omega))]
    exact c5
/-- the law's own row was written -/
theorem Cf.out (h : Cf mb ni A W K M σ) (v : Int64) : ∃ τ, sL σ (mb + 41) 2 0 v = some τ ∧ Cf mb ni A W K M τ ∧ aL τ (mb + 41) 2 0 = some v ∧ ∀ a, a ≠ mb + 41 → τ a = σ a := by
  obtain ⟨c1, c2, c3, c4, f, c5⟩ := h
  refine ⟨va_up σ (mb + 41) (some (.inr (2, 1, .inr (.inl (va_up f 0 v))))), ?_, ⟨c1, fun a q hw => ?_, ?_, c4, _, va_up_self _ _ _⟩, ?_, fun a ha => va_up_ne _ _ ha⟩
  · unfold sL aE
    rw [c5]
    simp only [if_true]
    rw [if_pos (by decide)]
    rfl
  · rw [va_up_ne]
    · exact c2 a q hw
    · intro e
      rw [c4 a (by omega) (by omega)] at hw
      cases hw
  · exact Hm.of c3 (fun a h1 h2 => va_up_ne _ _ (by omega))
  · unfold aL aE
    rw [va_up_self]
    simp only [if_true]
    rw [if_pos (by decide)]
    exact congrArg some (va_up_self _ _ _)
/-- values are kept -/
theorem Cf.vcls (h : Cf mb ni A W K M σ) {p : Nat} {u s : Int} (hv : Val σ p u s) : Val (ovk A W K' σ) p u s := hv.of (ovk_none (h.val hv).1)
theorem Cf.vref (h : Cf mb ni A W K M σ) {p : Nat} {u s : Int} (hv : Val σ p u s) : Val (ov mb M' σ) p u s := hv.of (ov_hi (h.val hv).2.1)
end CF
def VK (σ τ : Sto) : Prop := ∀ p u s, Val σ p u s → Val τ p u s
theorem VK.rf {σ : Sto} : VK σ σ := fun _ _ _ h => h
theorem VK.tr {σ τ ρ : Sto} (h : VK σ τ) (h' : VK τ ρ) : VK σ ρ := fun p u s a => h' p u s (h p u s a)
theorem RV.vk {K : KS} {M : MS} {σ τ : Sto} (h : RV K M σ) (hv : VK σ τ) : RV K M τ := by
  intro k hk
  rcases h k hk with h1 | ⟨p, u, s, a, b, c⟩
  · exact Or.inl h1
  · exact Or.inr ⟨p, u, s, a, hv _ _ _ b, c⟩
theorem RR.vk {K : KS} {M : MS} {σ τ : Sto} (h : RR K M σ) (hv : VK σ τ) : RR K M τ := by
  intro k hk
  rcases h k hk with h1 | ⟨p, u, s, a, b, c⟩
  · exact Or.inl h1
  · exact Or.inr ⟨p, u, s, a, hv _ _ _ b, c⟩
theorem Rel.vk {n ni : Nat} {A : AM} {K : KS} {M : MS} {σ τ : Sto} (h : Rel n ni A K M σ) (hv : VK σ τ) : Rel n ni A K M τ := ⟨h.1.vk hv, h.2.1, h.2.2.1, h.2.2.2.1.vk hv, h.2.2.2.2⟩
theorem RS.up {n : Nat} {K : KS} {M : MS} (h : RS n K M) : RS (n + 1) K M := by
  obtain ⟨T, D, ct, cd, nt, nd_, a, b, c, d, e⟩ := h
  exact ⟨T, D, ct, cd, nt, nd_, fun k hk => ⟨by have := (a k hk).1; omega, (a k hk).2⟩, fun k hk => ⟨by have := (b k hk).1; omega, (b k hk).2⟩, by omega, by omega, e⟩
theorem Rel.up {n ni : Nat} {A : AM} {K : KS} {M : MS} {σ : Sto} (h : Rel n ni A K M σ) : Rel (n + 1) ni A K M σ := ⟨h.1, h.2.1, h.2.2.1, h.2.2.2.1, h.2.2.2.2.1.up, h.2.2.2.2.2⟩
/-- the relation doesn't look at scratch, nor at what is told -/
theorem Rel.sd {n ni : Nat} {A : AM} {K : KS} {M M' : MS} {σ : Sto} (h : Rel n ni A K M σ) (hs : Sd M M') : Rel n ni A K M' σ := by
  obtain ⟨a, b, c, d, e, f, g, i, j⟩ := h
  have s1 : ∀ k, k ≠ 2 → k ≠ 8 → M'.1 k = M.1 k := hs.1
  have s2 : ∀ k, k ≠ 0 → k ≠ 1 → M'.2.1 k = M.2.1 k := hs.2.1
  have s3 : M'.2.2 = M.2.2 := hs.2.2
  refine ⟨?_, ?_, ?_, ?_, ?_, ?_, ?_, ?_, ?_⟩
  · unfold RV MV at *
    rw [s2 5 (by decide) (by decide), s2 4 (by decide) (by decide), s3]
    exact a
  · unfold RT at *
    rw [s1 7 (by decide) (by decide), s2 6 (by decide) (by decide)]
    exact b
  · unfold RC at *
    rw [s2 9 (by decide) (by decide), s2 10 (by decide) (by decide), s2 11 (by decide) (by decide)]
    exact c
  · unfold RR at *
    rw [s2 13 (by decide) (by decide), s3]
    exact d
  · unfold RS at *
    rw [s1 20 (by decide) (by decide), s1 21 (by decide) (by decide), s2 14 (by decide) (by decide), s2 15 (by decide) (by decide), s2 16 (by decide) (by decide), s2 17 (by decide) (by decide), s2 18 (by decide) (by decide), s2 19 (by decide) (by decide)]
    exact e
  · unfold RN at *
    rw [s1 29 (by decide) (by decide), s2 22 (by decide) (by decide), s2 23 (by decide) (by decide), s2 24 (by decide) (by decide), s2 25 (by decide) (by decide), s2 28 (by decide) (by decide), s3]
    exact f
  · unfold RW at *
    rw [s1 33 (by decide) (by decide), s1 34 (by decide) (by decide), s2 30 (by decide) (by decide), s3]
    exact g
  · unfold RLo at *
    rw [s1 41 (by decide) (by decide), s3]
    exact i
  · unfold RE LE at *
    rw [s1 46 (by decide) (by decide), s1 47 (by decide) (by decide), s1 51 (by decide) (by decide), s2 26 (by decide) (by decide), s2 42 (by decide) (by decide), s2 43 (by decide) (by decide), s2 44 (by decide) (by decide), s2 48 (by decide) (by decide), s2 49 (by decide) (by decide), s2 50 (by decide) (by decide), s3]
    exact j
