/-! ===== a row of a Steps grows: it gets a new address ===== -/
def rA (A : AM) (g j sz : Nat) : AM := fun g' j' => if g' = g ∧ j' = j then sz else A g' j'
def rW (A : AM) (W : WM) (g j sz : Nat) : WM := fun a => if a = sz then some (g, j) else if a = A g j then none else W a
def rK (K : KS) (g j m : Nat) (f : Nat → Int32) : KS := (fun g' j' k => if g' = g ∧ j' = j then f k else K.1 g' j' k, K.2.1, K.2.2.1, fun g' j' => if g' = g ∧ j' = j then m else K.2.2.2 g' j')
theorem rK_v {K : KS} {g j m g' j' k : Nat} {f : Nat → Int32} : (rK K g j m f).1 g' j' k = if g' = g ∧ j' = j then f k else K.1 g' j' k := rfl
theorem rK_n {K : KS} {g j m g' j' : Nat} {f : Nat → Int32} : (rK K g j m f).2.2.2 g' j' = if g' = g ∧ j' = j then m else K.2.2.2 g' j' := rfl
theorem bb3 {α β γ δ : Type} (x : α) (y : β) (z : γ) (f : α → β → γ → Option δ) : b3 (some (x, y, z)) f = f x y z := rfl
theorem getD_ne {l : List Nat} {d a b : Nat} (h : ∀ x, x ∈ l → x ≠ a ∧ x ≠ b) (hd : d ≠ a ∧ d ≠ b) : ∀ q, l.getD q d ≠ a ∧ l.getD q d ≠ b := by
  induction l with
  | nil => intro q; exact hd
  | cons x l ih =>
    intro q
    cases q with
    | zero => exact h x (List.mem_cons_self ..)
    | succ q => exact ih (fun y hy => h y (List.mem_cons_of_mem _ hy)) q
theorem fk_ne {g q : Nat} (hg : g ≠ 26) : fk g q ≠ 30 ∧ fk g q ≠ 31 := by
  unfold fk
  split
  · exact getD_ne (by decide) (by decide) q
  · exact getD_ne (by decide) (by decide) q
  · exact getD_ne (by decide) (by decide) q
  · exact getD_ne (by decide) (by decide) q
  · exact getD_ne (by decide) (by decide) q
  · exact absurd rfl hg
  · exact getD_ne (by decide) (by decide) q
  · exact ⟨by decide, by decide⟩
theorem kEnt_ren {A : AM} {K : KS} {g j m sz g' j' : Nat} {f : Nat → Int32} (hg : g = 27 ∨ g = 28) (h : ¬ (g' = g ∧ j' = j)) (h2 : ¬ (g' = 26 ∧ j' = j)) : kEnt (rA A g j sz) (rK K g j m f) g' j' = kEnt A K g' j' := by
  have e1 : (rK K g j m f).1 g' j' = K.1 g' j' := by
    funext k
    exact if_neg h
  have e2 : (rK K g j m f).2.2.2 g' j' = K.2.2.2 g' j' := if_neg h
  have e3 : (rK K g j m f).2.1 = K.2.1 := rfl
  have e4 : (rK K g j m f).2.2.1 = K.2.2.1 := rfl
  have ev : ∀ q, fv (rA A g j sz) (K.1 g' j') (K.2.1 g' j') (fk g' q) q j' = fv A (K.1 g' j') (K.2.1 g' j') (fk g' q) q j' := by
    intro q
    have hc : ∀ c, fk g' q = c + 3 → rA A g j sz c j' = A c j' := by
      intro c hc
      refine if_neg (fun w => ?_)
      by_cases h26 : g' = 26
      · exact h2 ⟨h26, w.2⟩
      · have := fk_ne (q := q) h26
        omega
    generalize fk g' q = z at hc
    unfold fv
    split
    · rfl
    · rfl
    · rfl
    · rename_i c
      rw [hc c rfl]
  have er : ∀ r, rk (rA A g j sz) r g' = rk A r g' := by
    intro r
    have a25 : rA A g j sz 25 = A 25 := by funext i; exact if_neg (by omega)
    have a26 : rA A g j sz 26 = A 26 := by funext i; exact if_neg (by omega)
    funext i
    unfold rk
    split
    · rw [a25]
    · rw [a26]
    · rw [a26]
    · rfl
  unfold kEnt kE
  rw [e1, e2, e3, e4, er]
  simp only [ev]
theorem kEnt_st {A : AM} {K : KS} {j : Nat} : kEnt A K 26 j = .inl (7, fun q => fv A (K.1 26 j) (K.2.1 26 j) (fk 26 q) q j) := rfl
theorem kEnt_stR {A : AM} {K : KS} {g j m sz : Nat} {f : Nat → Int32} (hg : g = 27 ∨ g = 28) : kEnt (rA A g j sz) (rK K g j m f) 26 j = .inl (7, va_up (fun q => fv A (K.1 26 j) (K.2.1 26 j) (fk 26 q) q j) (g - 27) (.ref sz)) := by
  rw [kEnt_st]
  have e1 : (rK K g j m f).1 26 j = K.1 26 j := by
    funext k
    exact if_neg (by omega)
  rw [e1]
  refine congrArg (fun v => Sum.inl (7, v)) ?_
  funext q
  rcases hg with rfl | rfl
  · match q with
    | 0 => show Value.ref (rA A 27 j sz 27 j) = _
           rw [show rA A 27 j sz 27 j = sz from if_pos ⟨rfl, rfl⟩]
           exact (va_up_self _ _ _).symm
    | 1 => rw [va_up_ne _ _ (by decide)]
           show Value.ref (rA A 27 j sz 28 j) = Value.ref (A 28 j)
           rw [show rA A 27 j sz 28 j = A 28 j from if_neg (by omega)]
    | q + 2 => rw [va_up_ne _ _ (by omega)]
               rfl
  · match q with
    | 0 => rw [va_up_ne _ _ (by decide)]
           show Value.ref (rA A 28 j sz 27 j) = Value.ref (A 27 j)
           rw [show rA A 28 j sz 27 j = A 27 j from if_neg (by omega)]
    | 1 => show Value.ref (rA A 28 j sz 28 j) = _
           rw [show rA A 28 j sz 28 j = sz from if_pos ⟨rfl, rfl⟩]
           exact (va_up_self _ _ _).symm
    | q + 2 => rw [va_up_ne _ _ (by omega)]
               rfl
theorem kEnt_row {A : AM} {K : KS} {g j : Nat} (hg : g = 27 ∨ g = 28) : kEnt A K g j = .inr (1, K.2.2.2 g j, .inl (K.1 g j)) := by
  rcases hg with rfl | rfl <;> rfl
theorem Lv_27 {ni g j : Nat} (hg : g = 27 ∨ g = 28) (hj : j < 12) : Lv ni g j := by
  rcases hg with rfl | rfl <;> exact hj
section RN_
variable {mb ni sz g j m len : Nat} {A : AM} {W : WM} {K : KS} {M : MS} {σ τ : Sto} {f : Nat → Int32}
theorem Cf.lo (h : Cf mb ni A W K M σ) (hF : Fr σ sz) {a : Nat} {q : Nat × Nat} (hq : W a = some q) : a < sz := Nat.not_le.mp fun w => by
  have := h.2.1 a q hq
  rw [hF a w] at this
  cases this
theorem Cf.ren (h : Cf mb ni A W K M σ) (hF : Fr σ sz) (hg : g = 27 ∨ g = 28) (hj : j < 12) (t0 : τ sz = some (.inr (1, m, .inl f))) (t1 : τ (A 26 j) = some (kEnt (rA A g j sz) (rK K g j m f) 26 j)) (t2 : ∀ a, a ≠ sz → a ≠ A 26 j → τ a = σ a) : Cf mb ni (rA A g j sz) (rW A W g j sz) (rK K g j m f) M τ := by
  have lo : ∀ a q, W a = some q → a < sz := fun a q hq => h.lo hF hq
  obtain ⟨c1, c2, c3, c4, f', c5⟩ := h
  have hl := Lv_27 (ni := ni) hg hj
  have hl26 : Lv ni 26 j := hj
  have w26 := c1.1 26 j hl26
  have wg := c1.1 g j hl
  have hm : mb + 41 < sz := Nat.not_le.mp fun w => by
    rw [hF _ w] at c5
    cases c5
  have n26 : ∀ a, mb ≤ a → a < mb + 42 → a ≠ A 26 j := fun a h1 h2 e => by
    have := c4 a h1 h2
    rw [e, w26] at this
    cases this
  refine ⟨⟨fun g' j' hl' => ?_, fun a g' j' hw => ?_⟩, fun a q hw => ?_, ?_, fun a h1 h2 => ?_, f', ?_⟩
  · unfold rA rW
    by_cases e : g' = g ∧ j' = j
    · rw [if_pos e, if_pos rfl, e.1, e.2]
    · have w := c1.1 g' j' hl'
      rw [if_neg e, if_neg (by have := lo _ _ w; omega), if_neg (fun e2 => by
        rw [e2, wg] at w
        have := Option.some.inj w
        exact e ⟨(congrArg Prod.fst this).symm, (congrArg Prod.snd this).symm⟩)]
      exact w
  · unfold rW at hw
    unfold rA
    by_cases e : a = sz
    · rw [if_pos e] at hw
      have := Option.some.inj hw
      have e1 : g = g' := congrArg Prod.fst this
      have e2 : j = j' := congrArg Prod.snd this
      rw [← e1, ← e2, if_pos ⟨rfl, rfl⟩]
      exact ⟨e.symm, hl⟩
    · rw [if_neg e] at hw
      by_cases e2 : a = A g j
      · rw [if_pos e2] at hw; cases hw
      · rw [if_neg e2] at hw
        obtain ⟨d1, d2⟩ := c1.2 a g' j' hw
        rw [if_neg (fun w => e2 (by rw [← d1, w.1, w.2]))]
        exact ⟨d1, d2⟩
  · unfold rW at hw
    by_cases e : a = sz
    · rw [if_pos e] at hw
      have := (Option.some.inj hw).symm
      rw [e, this, t0, kEnt_row hg]
      have k1 : (rK K g j m f).1 g j = f := by funext k; exact if_pos ⟨rfl, rfl⟩
      have k2 : (rK K g j m f).2.2.2 g j = m := if_pos ⟨rfl, rfl⟩
      rw [k1, k2]
    · rw [if_neg e] at hw
      by_cases e2 : a = A g j
      · rw [if_pos e2] at hw; cases hw
      · rw [if_neg e2] at hw
        have d1 := (c1.2 a q.1 q.2 hw).1
        by_cases e3 : a = A 26 j
        · rw [e3, w26] at hw
          have := (Option.some.inj hw).symm
          rw [e3, t1, this]
        · rw [t2 a e e3, c2 a q hw, kEnt_ren hg (fun w => e2 (by rw [← d1, w.1, w.2])) (fun w => e3 (by rw [← d1, w.1, w.2]))]
  · exact Hm.of c3 (fun a h1 h2 => t2 a (by omega) (n26 a h1 (by omega)))
  · unfold rW
    rw [if_neg (by omega)]
    by_cases e : a = A g j
    · rw [if_pos e]
    · rw [if_neg e]; exact c4 a h1 h2
  · rw [t2 _ (by omega) (n26 _ (by omega) (by omega))]
    exact c5
theorem iI_nat (n : Nat) : Int32.ofNat n = iI (n : Int) := (Int32.ofInt_eq_ofNat (n := n)).symm
theorem aE_of {τ : Sto} {a k n : Nat} {f : Cn} (h : τ a = some (.inr (k, n, f))) : aE τ a k = some (n, f) := by
  unfold aE
  rw [h]
  exact if_pos rfl
theorem aN_of {τ : Sto} {a k n : Nat} {f : Cn} (h : τ a = some (.inr (k, n, f))) : aN τ a k = some (iI (n : Nat)) := by
  unfold aN
  rw [aE_of h]
  exact congrArg some (iI_nat n)
theorem x_copy (hC : Cf mb ni A W K M σ) (hF : Fr σ sz) (hg : g = 27 ∨ g = 28) (hj : j < 12) (hlen : K.2.2.2 g j = len) (hm : len < m) (hm2 : m ≤ 1024) : ∃ τ, f_J7_copyOf_59c91 σ sz (A g j) (iI (m : Nat)) = some (sz, τ, sz + 1) ∧ τ sz = some (.inr (1, m, .inl (va_cpy (K.1 g j) (fun _ => 0) 0 0 len))) ∧ ∀ a, a ≠ sz → τ a = σ a := by
  have w := hC.1.1 g j (Lv_27 hg hj)
  have hσ : σ (A g j) = some (.inr (1, len, .inl (K.1 g j))) := by
    have := hC.2.1 _ _ w
    rw [kEnt_row hg, hlen] at this
    exact this
  have hlt := hC.lo hF w
  have h3 : nA σ sz 1 m z1 (A g j) = some (.inr (1, len, .inl (K.1 g j))) := (va_up_ne _ _ (by omega)).trans hσ
  have h3' : nA σ sz 1 m z1 sz = some (.inr (1, m, .inl (fun _ => 0))) := va_up_self _ _ _
  refine ⟨va_up (nA σ sz 1 m z1) sz (some (.inr (1, m, .inl (va_cpy (K.1 g j) (fun _ => 0) 0 0 len)))), ?_, va_up_self _ _ _, fun a ha => ?_⟩
  · unfold f_J7_copyOf_59c91
    have n1 : nN (iI (m : Nat)) = some m := by
      unfold nN
      rw [inN (by omega) (by decide), if_pos rfl, clN (by omega)]
    have cp : cpI (nA σ sz 1 m z1) (A g j) 0 sz 0 (iI (len : Nat)) = some (va_up (nA σ sz 1 m z1) sz (some (.inr (1, m, .inl (va_cpy (K.1 g j) (fun _ => 0) 0 0 len))))) := by
      unfold cpI
      rw [aE_of h3, aE_of h3']
      dsimp only
      have z : (0 : Int32).toNatClampNeg = 0 := by decide
      rw [z, clN (by omega), if_pos ⟨by decide, by decide, fun w => by rw [iI_lit 0, jI_lt (by omega) (by decide)] at w; omega, by omega, by omega⟩]
    rw [aN_of hσ, Option.bind_some, if_neg (fun w => by rw [jI_eq (by omega) (by omega)] at w; omega), n1, Option.bind_some]
    dsimp only [lt_]
    rw [aN_of h3, Option.bind_some, if_neg (fun w => by rw [jI_lt (by omega) (by omega)] at w; omega), cp, Option.bind_some]
  · rw [va_up_ne _ _ ha]
    exact va_up_ne _ _ ha
/-- a row grown, its Steps written -/
theorem x_grow (hC : Cf mb ni A W K M σ) (hF : Fr σ sz) (hg : g = 27 ∨ g = 28) (hj : j < 12) (hlen : K.2.2.2 g j = len) (hm : len < m) (hm2 : m ≤ 1024) : ∃ τ τ', f_J7_copyOf_59c91 σ sz (A g j) (iI (m : Nat)) = some (sz, τ, sz + 1) ∧ pF τ (A 26 j) 7 (g - 27) (.ref sz) = some τ' ∧ Cf mb ni (rA A g j sz) (rW A W g j sz) (rK K g j m (va_cpy (K.1 g j) (fun _ => 0) 0 0 len)) M τ' ∧ VK σ τ' ∧ Fr τ' (sz + 1) := by
  obtain ⟨τ, t1, t2, t3⟩ := x_copy (m := m) hC hF hg hj hlen hm hm2
  have w := hC.1.1 26 j (show Lv ni 26 j from hj)
  have hσ := hC.2.1 _ _ w
  have hlt := hC.lo hF w
  rw [kEnt_st] at hσ
  obtain ⟨τ', s1, s2, s3⟩ := pF_ex (k := g - 27) (v := .ref sz) ((t3 _ (by omega)).trans hσ)
  refine ⟨τ, τ', t1, s1, ?_, ?_, ?_⟩
  · refine hC.ren hF hg hj ?_ ?_ (fun a h1 h2 => ?_)
    · rw [s3 _ (by omega)]; exact t2
    · rw [s2, kEnt_stR hg]
    · rw [s3 a h2]; exact t3 a h1
  · intro p u s hv
    refine hv.of ?_
    have p1 := hv.lt hF
    have p2 : p ≠ A 26 j := fun e => by
      have := (hC.val hv).1
      rw [e, w] at this
      cases this
    rw [s3 _ p2]
    exact t3 _ (by omega)
  · intro a ha
    rw [s3 a (by omega), t3 a (by omega)]
    exact hF a (by omega)
/-- what is kept when something is told of row j -/
def TK (j : Nat) (A A' : AM) (K K' : KS) : Prop := A' 0 0 = A 0 0 ∧ A' 29 = A 29 ∧ A' 26 j = A 26 j ∧ (∀ g j', ¬ ((g = 26 ∨ g = 27 ∨ g = 28) ∧ j' = j) → K'.1 g j' = K.1 g j' ∧ K'.2.2.2 g j' = K.2.2.2 g j') ∧ K'.2.1 = K.2.1 ∧ K'.2.2.1 = K.2.2.1
theorem x_makeRoom (hC : Cf mb ni A W K M σ) (hF : Fr σ sz) (hj : j < 12) (h7 : K.2.2.2 27 j = len) (h8 : K.2.2.2 28 j = len) (h4 : 4 ≤ len) (hm2 : len ≤ 512) : ∃ A' W' K' τ, f_X8_makeRoom σ sz (A 26 j) = some ((), τ, sz + 2) ∧ Cf mb ni A' W' K' M τ ∧ VK σ τ ∧ TK j A A' K K' ∧ K'.2.2.2 27 j = 2 * len ∧ K'.2.2.2 28 j = 2 * len ∧ K'.1 26 j = K.1 26 j ∧ ∀ i, i < len → K'.1 27 j i = K.1 27 j i ∧ K'.1 28 j i = K.1 28 j i := by
  obtain ⟨τ1, τ2, s1, s2, s3, s4, s5⟩ := x_grow (g := 27) (m := 2 * len) hC hF (Or.inl rfl) hj h7 (by omega) (by omega)
  obtain ⟨A1, hA1⟩ : ∃ A1, A1 = rA A 27 j sz := ⟨_, rfl⟩
  obtain ⟨K1, hK1⟩ : ∃ K1, K1 = rK K 27 j (2 * len) (va_cpy (K.1 27 j) (fun _ => 0) 0 0 len) := ⟨_, rfl⟩
  rw [← hA1, ← hK1] at s3
  have k7 : K1.2.2.2 27 j = 2 * len := by rw [hK1, rK_n, if_pos ⟨rfl, rfl⟩]
  have k8 : K1.2.2.2 28 j = len := by rw [hK1, rK_n, if_neg (by omega)]; exact h8
  have a26 : A1 26 j = A 26 j := by rw [hA1]; exact if_neg (fun w => absurd w.1 (by decide))
  have a27 : A1 27 j = sz := by rw [hA1]; exact if_pos ⟨rfl, rfl⟩
  have a28 : A1 28 j = A 28 j := by rw [hA1]; exact if_neg (fun w => absurd w.1 (by decide))
  obtain ⟨τ3, τ4, r1, r2, r3, r4, r5⟩ := x_grow (g := 28) (m := 2 * len) s3 s5 (Or.inr rfl) hj k8 (by omega) (by omega)
  obtain ⟨A2, hA2⟩ : ∃ A2, A2 = rA A1 28 j (sz + 1) := ⟨_, rfl⟩
  obtain ⟨K2, hK2⟩ : ∃ K2, K2 = rK K1 28 j (2 * len) (va_cpy (K1.1 28 j) (fun _ => 0) 0 0 len) := ⟨_, rfl⟩
  rw [← hA2, ← hK2] at r3
  have a2 : ∀ g j', ¬ (g = 27 ∧ j' = j) → ¬ (g = 28 ∧ j' = j) → A2 g j' = A g j' := fun g j' h1 h2 => by
    rw [hA2, show rA A1 28 j (sz + 1) g j' = A1 g j' from if_neg h2, hA1]
    exact if_neg h1
  have kv : ∀ g j' q, ¬ (g = 27 ∧ j' = j) → ¬ (g = 28 ∧ j' = j) → K2.1 g j' q = K.1 g j' q := fun g j' q h1 h2 => by
    rw [hK2, rK_v, if_neg h2, hK1, rK_v, if_neg h1]
  refine ⟨A2, _, K2, τ4, ?_, r3, s4.tr r4, ⟨a2 0 0 (by omega) (by omega), ?_, a2 26 j (by omega) (by omega), fun g j' h => ⟨?_, ?_⟩, ?_, ?_⟩, ?_, ?_, ?_, fun i hi => ⟨?_, ?_⟩⟩
  · unfold f_X8_makeRoom
    have g0 := xR_26_0 (K := K) (σ := σ) hC.1 hj
    have n0 := xN_27 (K := K) (σ := σ) hC.1 hj
    rw [hC.eqk] at g0 n0
    have g1 := xR_26_1 (K := K1) (σ := τ2) s3.1 hj
    have g2 := xR_26_0 (K := K1) (σ := τ2) s3.1 hj
    have n1 := xN_27 (K := K1) (σ := τ2) s3.1 hj
    rw [s3.eqk] at g1 g2 n1
    rw [a26] at g1 g2
    rw [g0, Option.bind_some, Option.bind_some, n0, Option.bind_some, h7, iI_nat, show (2 : Int32) = iI (2 : Nat) from rfl, jI_mul, Nat.mul_comm, s1, bb3]
    rw [show (27 : Nat) - 27 = 0 from rfl] at s2
    rw [s2, Option.bind_some, g1, Option.bind_some, g2, Option.bind_some, n1, Option.bind_some, k7, iI_nat, r1, bb3]
    rw [show (28 : Nat) - 27 = 1 from rfl, a26] at r2
    rw [r2, Option.bind_some]
  · funext i
    exact a2 29 i (by omega) (by omega)
  · funext q
    exact kv g j' q (by omega) (by omega)
  · rw [hK2, rK_n, if_neg (by omega), hK1, rK_n, if_neg (by omega)]
  · rw [hK2, hK1]; rfl
  · rw [hK2, hK1]; rfl
  · rw [hK2, rK_n, if_neg (by omega)]; exact k7
  · rw [hK2, rK_n, if_pos ⟨rfl, rfl⟩]
  · funext q
    exact kv 26 j q (by omega) (by omega)
  · rw [hK2, rK_v, if_neg (by omega), hK1, rK_v, if_pos ⟨rfl, rfl⟩]
    unfold va_cpy
    rw [if_pos ⟨by omega, by omega⟩]
    exact congrArg _ (by omega)
  · have e : ∀ q, K1.1 28 j q = K.1 28 j q := fun q => by rw [hK1, rK_v, if_neg (by omega)]
    rw [hK2, rK_v, if_pos ⟨rfl, rfl⟩]
    unfold va_cpy
    rw [if_pos ⟨by omega, by omega⟩, e]
    exact congrArg _ (by omega)
end RN_
