/-! ===== the ledger ===== -/
def KE (K K' : KS) : Prop := (∀ g, g < 17 ∨ 24 < g → K'.1 g = K.1 g) ∧ (∀ g, g < 17 ∨ 24 < g → K'.2.1 g = K.2.1 g) ∧ K'.2.2 = K.2.2
def ME (M M' : MS) : Prop := (∀ k, k ≠ 2 → k ≠ 8 → k < 46 → M'.1 k = M.1 k) ∧ (∀ k, k ≠ 0 → k ≠ 1 → k ≠ 26 → k < 42 → M'.2.1 k = M.2.1 k) ∧ ∀ k, k < 45 → M'.2.2 k = M.2.2 k
theorem KE.rf {K : KS} : KE K K := ⟨fun _ _ => rfl, fun _ _ => rfl, rfl⟩
theorem ME.rf {M : MS} : ME M M := ⟨fun _ _ _ _ => rfl, fun _ _ _ _ _ => rfl, fun _ _ => rfl⟩
theorem KE.kI {K K' : KS} {g j k : Nat} {v : Int32} (h : KE K K') (h1 : 17 ≤ g) (h2 : g ≤ 24) : KE K (kI K' g j k v) := by
  refine ⟨fun g' hg => ?_, h.2.1, h.2.2⟩
  rw [← h.1 g' hg]
  funext j' k'
  rw [kI_v, if_neg (fun w => by omega)]
theorem KE.kL {K K' : KS} {g j k : Nat} {v : Int64} (h : KE K K') (h1 : 17 ≤ g) (h2 : g ≤ 24) : KE K (kL K' g j k v) := by
  refine ⟨h.1, fun g' hg => ?_, h.2.2⟩
  rw [← h.2.1 g' hg]
  funext j' k'
  rw [kL_v, if_neg (fun w => by omega)]
theorem ME.uI {M M' : MS} {k : Nat} {v : Int32} (h : ME M M') (h1 : 46 ≤ k ∨ k = 8) : ME M (uI M' k v) := by
  refine ⟨fun k' a b c => ?_, h.2.1, h.2.2⟩
  rw [← h.1 k' a b c, uI_v, if_neg (by omega)]
theorem ME.uA {M M' : MS} {k i : Nat} {v : Int32} (h : ME M M') (h1 : 42 ≤ k ∨ k = 26) : ME M (uA M' k i v) := by
  refine ⟨h.1, fun k' a b c d => ?_, h.2.2⟩
  rw [← h.2.1 k' a b c d]
  funext i'
  rw [uA_v, if_neg (by omega)]
theorem ME.uL {M M' : MS} {k i : Nat} {v : Int64} (h : ME M M') (h1 : 45 ≤ k) : ME M (uL M' k i v) := by
  refine ⟨h.1, h.2.1, fun k' a => ?_⟩
  rw [← h.2.2 k' a]
  funext i'
  rw [uL_v, if_neg (by omega)]
/-- only the ledger was written -/
theorem Rel.led {n ni : Nat} {A : AM} {K K' : KS} {M M' : MS} {σ : Sto} (h : Rel n ni A K M σ) (hK : KE K K') (hM : ME M M') (hE : RE ni K' M') : Rel n ni A K' M' σ := by
  obtain ⟨a, b, c, d, e, f, g, i, j⟩ := h
  have s1 : ∀ k, k ≠ 2 → k ≠ 8 → k < 46 → M'.1 k = M.1 k := hM.1
  have s2 : ∀ k, k ≠ 0 → k ≠ 1 → k ≠ 26 → k < 42 → M'.2.1 k = M.2.1 k := hM.2.1
  have s3 : ∀ k, k < 45 → M'.2.2 k = M.2.2 k := hM.2.2
  have t1 : ∀ g, g < 17 ∨ 24 < g → K'.1 g = K.1 g := hK.1
  have t2 : ∀ g, g < 17 ∨ 24 < g → K'.2.1 g = K.2.1 g := hK.2.1
  have t3 : K'.2.2 = K.2.2 := hK.2.2
  refine ⟨?_, ?_, ?_, ?_, ?_, ?_, ?_, ?_, hE⟩
  · unfold RV MV at *
    rw [s2 5 (by decide) (by decide) (by decide) (by decide), s2 4 (by decide) (by decide) (by decide) (by decide), s3 3 (by decide), t3]
    exact a
  · unfold RT at *
    rw [s1 7 (by decide) (by decide) (by decide), s2 6 (by decide) (by decide) (by decide) (by decide), t1 2 (by decide), t1 3 (by decide)]
    exact b
  · unfold RC at *
    rw [s2 9 (by decide) (by decide) (by decide) (by decide), s2 10 (by decide) (by decide) (by decide) (by decide), s2 11 (by decide) (by decide) (by decide) (by decide), t1 25 (by decide)]
    exact c
  · unfold RR at *
    rw [s2 13 (by decide) (by decide) (by decide) (by decide), s3 12 (by decide), t3]
    exact d
  · unfold RS StT at *
    rw [s1 20 (by decide) (by decide) (by decide), s1 21 (by decide) (by decide) (by decide), s2 14 (by decide) (by decide) (by decide) (by decide), s2 15 (by decide) (by decide) (by decide) (by decide), s2 16 (by decide) (by decide) (by decide) (by decide), s2 17 (by decide) (by decide) (by decide) (by decide), s2 18 (by decide) (by decide) (by decide) (by decide), s2 19 (by decide) (by decide) (by decide) (by decide), t1 26 (by decide), t1 27 (by decide), t1 28 (by decide), t3]
    exact e
  · unfold RN at *
    rw [s1 29 (by decide) (by decide) (by decide), s2 22 (by decide) (by decide) (by decide) (by decide), s2 23 (by decide) (by decide) (by decide) (by decide), s2 24 (by decide) (by decide) (by decide) (by decide), s2 25 (by decide) (by decide) (by decide) (by decide), s2 28 (by decide) (by decide) (by decide) (by decide), s3 27 (by decide), t1 0 (by decide), t1 29 (by decide), t1 31 (by decide), t2 30 (by decide), t3]
    exact f
  · unfold RW at *
    rw [s1 33 (by decide) (by decide) (by decide), s1 34 (by decide) (by decide) (by decide), s2 30 (by decide) (by decide) (by decide) (by decide), s3 31 (by decide), t1 9 (by decide), t1 10 (by decide), t2 11 (by decide), t2 9 (by decide)]
    exact g
  · have ob : ∀ i, owedB K' i = owedB K i := by
      intro i
      cases i with
      | zero => unfold owedB; rw [t2 13 (by decide)]
      | succ i => unfold owedB; rw [t2 16 (by decide)]
    unfold RLo at *
    simp only [ob]
    rw [s1 41 (by decide) (by decide) (by decide), s3 35 (by decide), s3 36 (by decide), s3 37 (by decide), t1 13 (by decide), t2 14 (by decide), t2 15 (by decide), t2 16 (by decide)]
    exact i
/-! counting -/
theorem bkN_c {f g : Nat → Int32} {a : Nat} (h : ∀ i, i < a → f i = g i) : bkN f a = bkN g a := by
  induction a with
  | zero => rfl
  | succ a ih => unfold bkN; rw [ih (fun i hi => h i (by omega)), h a (by omega)]
theorem flags_le {f : Nat → Int32} {n : Nat} : flags f n ≤ n := by
  induction n with
  | zero => exact Nat.le_refl _
  | succ n ih => unfold flags; split <;> omega
theorem flags_lt {f : Nat → Int32} {n v : Nat} (hv : v < n) (h : f v ≠ 1) : flags f n < n := by
  induction n with
  | zero => omega
  | succ n ih =>
    unfold flags
    by_cases e : v = n
    · subst e
      rw [if_neg h]
      have := flags_le (f := f) (n := v)
      omega
    · have := ih (by omega)
      split <;> omega
theorem flags_c {f g : Nat → Int32} {n : Nat} (h : ∀ i, i < n → f i = g i) : flags f n = flags g n := by
  induction n with
  | zero => rfl
  | succ a ih => unfold flags; rw [ih (fun i hi => h i (by omega)), h a (by omega)]
theorem flags_set {f g : Nat → Int32} {n v : Nat} (hv : v < n) (h : f v ≠ 1) (h1 : g v = 1) (h2 : ∀ i, i ≠ v → g i = f i) : flags g n = flags f n + 1 := by
  induction n with
  | zero => omega
  | succ n ih =>
    unfold flags
    by_cases e : v = n
    · subst e
      rw [if_neg h, if_pos h1, flags_c (fun i hi => h2 i (by omega))]
    · rw [ih (by omega), h2 n (fun w => e w.symm)]
      omega
section LE
variable {mb ni c a : Nat} {sh : Int} {S : Nat → Nat} {A : AM} {W : WM} {K : KS} {M : MS} {σ : Sto}
/-! one more act -/
def nK (K : KS) (a c : Nat) (d b : Int32) : KS := kI (kI (kI (kI K 22 0 a d) 23 0 a b) 24 0 a (iI (c : Nat))) 17 0 8 (iI ((a + 1 : Nat) : Int))
def nM (M : MS) (a c : Nat) (d b : Int32) : MS := uI (uA (uA (uA M 48 a (iI (c : Nat))) 49 a d) 50 a b) 51 (iI ((a + 1 : Nat) : Int))
theorem nK_E {K K' : KS} {d b : Int32} (h : KE K K') : KE K (nK K' a c d b) := (((h.kI (by decide) (by decide)).kI (by decide) (by decide)).kI (by decide) (by decide)).kI (by decide) (by decide)
theorem nM_E {M M' : MS} {d b : Int32} (h : ME M M') : ME M (nM M' a c d b) := (((h.uA (by decide)).uA (by decide)).uA (by decide)).uI (by decide)
theorem x_begin (hG : Gk ni A W) (h8 : K.1 17 0 8 = iI (a : Nat)) (h4 : K.1 17 0 4 = iI (c : Nat)) (ha : a < 220) {d b : Int32} : f_X3_begin (ovk A W K σ) (A 17 0) d b = some ((), ovk A W (nK K a c d b) σ) := by
  have i220 : inB (iI (a : Nat)) 220 = true := inN ha (by decide)
  have k220 : (iI (a : Nat)).toNatClampNeg = a := clN (by omega)
  unfold f_X3_begin
  rw [xI_17_8 hG, Option.bind_some, h8, if_neg (fun w => by rw [iI_lit 220, jI_le (by omega) (by omega)] at w; omega)]
  simp only [xR_17_5 hG, xR_17_6 hG, xR_17_7 hG, xI_17_8 hG, xI_17_4 hG, xP_17_8 hG, xS_22 hG, xS_23 hG, xS_24 hG, Option.bind_some, kI_v, Nat.reduceEqDiff, false_and, if_false, h8, h4, i220, k220, if_true, jI_s]
  rfl
theorem m_notes (h8 : M.1 51 = iI (a : Nat)) (h4 : M.1 46 = iI (c : Nat)) (ha : a < 220) {d b : Int32} : f_X12_notes (ov mb M σ) mb d b = some ((), ov mb (nM M a c d b) σ) := by
  have i600 : inB (iI (a : Nat)) 600 = true := inN (by omega) (by decide)
  have k600 : (iI (a : Nat)).toNatClampNeg = a := clN (by omega)
  unfold f_X12_notes
  simp only [oR_48, oR_49, oR_50, oI_51, oI_46, oP_51, oS_48, oS_49, oS_50, Option.bind_some, uA_o, h8, h4, i600, k600, if_true, jI_s]
  rfl
/-! one more entry -/
def eK (K : KS) (a c : Nat) (x y : Int32) (v : Int64) : KS := kI (kI (kL (kI (kI K 18 0 c x) 19 0 c y) 20 0 c v) 21 0 c (K.1 22 0 a)) 17 0 4 (iI ((c + 1 : Nat) : Int))
def eM (M : MS) (c : Nat) (d x y : Int32) (v : Int64) : MS := uI (uL (uA (uA (uA M 42 c d) 43 c x) 44 c y) 45 c v) 46 (iI ((c + 1 : Nat) : Int))
theorem eK_E {K K' : KS} {x y : Int32} {v : Int64} (h : KE K K') : KE K (eK K' a c x y v) := ((((h.kI (by decide) (by decide)).kI (by decide) (by decide)).kL (by decide) (by decide)).kI (by decide) (by decide)).kI (by decide) (by decide)
theorem eM_E {M M' : MS} {d x y : Int32} {v : Int64} (h : ME M M') : ME M (eM M' c d x y v) := ((((h.uA (by decide)).uA (by decide)).uA (by decide)).uL (by decide)).uI (by decide)
theorem x_enter (hG : Gk ni A W) (h8 : K.1 17 0 8 = iI ((a + 1 : Nat) : Int)) (h4 : K.1 17 0 4 = iI (c : Nat)) (ha : a < 220) (hc : c < 200) {x y : Int32} {v : Int64} : f_X3_enter (ovk A W K σ) (A 17 0) x y v = some (iI ((c + 1 : Nat) : Int), ovk A W (eK K a c x y v) σ) := by
  have i220 : inB (iI (a : Nat)) 220 = true := inN ha (by decide)
  have k220 : (iI (a : Nat)).toNatClampNeg = a := clN (by omega)
  have i200 : inB (iI (c : Nat)) 200 = true := inN hc (by decide)
  have k200 : (iI (c : Nat)).toNatClampNeg = c := clN (by omega)
  unfold f_X3_enter
  rw [xI_17_4 hG, Option.bind_some, h4, if_neg (fun w => by rw [iI_lit 200, jI_le (by omega) (by omega)] at w; omega)]
  rw [xI_17_8 hG, Option.bind_some, h8, if_neg (fun w => by rw [iI_lit 0, jI_le (by omega) (by omega)] at w; omega)]
  simp only [xR_17_0 hG, xR_17_1 hG, xR_17_2 hG, xR_17_3 hG, xR_17_5 hG, xI_17_8 hG, xI_17_4 hG, xP_17_4 hG, xS_18 hG, xS_19 hG, xS_20 hG, xS_21 hG, xA_22 hG, Option.bind_some, kI_v, kL_o, Nat.reduceEqDiff, false_and, if_false, h8, h4, i220, k220, i200, k200, if_true, jI_s, jI_p, and_self]
  rfl
theorem m_enters (h4 : M.1 46 = iI (c : Nat)) (hc : c < 200) {d x y : Int32} {v : Int64} : f_X12_enters (ov mb M σ) mb d x y v = some ((), ov mb (eM M c d x y v) σ) := by
  have i200 : inB (iI (c : Nat)) 200 = true := inN hc (by decide)
  have k200 : (iI (c : Nat)).toNatClampNeg = c := clN (by omega)
  unfold f_X12_enters
  simp only [oR_42, oR_43, oR_44, oR_45, oI_46, oP_46, oS_42, oS_43, oS_44, oS_45, Option.bind_some, uA_o, uL_o, h4, i200, k200, if_true, jI_s]
  rfl
end LE
