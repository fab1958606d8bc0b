/-! ===== sharing: what is cut, who gets what is left ===== -/
theorem ch1 {P : Nat → Nat → Prop} {n : Nat} (h : ∀ j, j < n → ∃ e, P j e) : ∃ E : Nat → Nat, ∀ j, j < n → P j (E j) := by
  refine ⟨fun j => if g : j < n then Classical.choose (h j g) else 0, fun j g => ?_⟩
  dsimp only
  rw [dif_pos g]
  exact Classical.choose_spec (h j g)
theorem sN_mono {g : Nat → Nat} {k n : Nat} (h : k ≤ n) : sN g k ≤ sN g n := by
  induction n with
  | zero => have : k = 0 := by omega
            subst this; exact Nat.le_refl _
  | succ n ih =>
    by_cases e : k = n + 1
    · subst e; exact Nat.le_refl _
    · have := ih (by omega)
      show _ ≤ sN g n + g n
      omega
theorem sN_cut {v S : Nat} {w : Nat → Nat} (k : Nat) : sN (fun i => v * w i / S) k * S + sN (fun i => v * w i % S) k = v * sN w k := by
  induction k with
  | zero => show 0 * S + 0 = v * 0; omega
  | succ k ih =>
    have h := Nat.div_add_mod (v * w k) S
    show (sN (fun i => v * w i / S) k + v * w k / S) * S + (sN (fun i => v * w i % S) k + v * w k % S) = v * (sN w k + w k)
    rw [Nat.add_mul, Nat.mul_add, ← ih]
    rw [Nat.mul_comm] at h
    omega
def nz (c : Nat → Nat) : Nat → Nat
  | 0 => 0
  | n + 1 => nz c n + if 0 < c n then 1 else 0
theorem nz_le {c : Nat → Nat} {n : Nat} : nz c n ≤ n := by
  induction n with
  | zero => exact Nat.le_refl _
  | succ n ih =>
    unfold nz
    split <;> omega
theorem nz_cg {f g : Nat → Nat} {n : Nat} (h : ∀ i, i < n → f i = g i) : nz f n = nz g n := by
  induction n with
  | zero => rfl
  | succ n ih =>
    unfold nz
    rw [ih (fun i hi => h i (by omega)), h n (by omega)]
theorem nz_ex {c : Nat → Nat} {n : Nat} (h : 0 < nz c n) : ∃ i, i < n ∧ 0 < c i := by
  induction n with
  | zero => exact absurd h (Nat.lt_irrefl 0)
  | succ n ih =>
    by_cases e : 0 < c n
    · exact ⟨n, by omega, e⟩
    · unfold nz at h
      rw [if_neg e] at h
      obtain ⟨i, h1, h2⟩ := ih h
      exact ⟨i, by omega, h2⟩
theorem nz_up {c : Nat → Nat} {p n : Nat} (hp : p < n) (h : 0 < c p) : nz (fun i => if i = p then 0 else c i) n + 1 = nz c n := by
  induction n with
  | zero => omega
  | succ n ih =>
    unfold nz
    by_cases e : n = p
    · subst e
      rw [if_pos rfl, if_neg (by omega), if_pos h, nz_cg (g := c) (fun i hi => if_neg (by omega))]
    · rw [if_neg e, ← ih (by omega)]
      omega
theorem nz_sum {c : Nat → Nat} {S n : Nat} (h : ∀ i, i < n → c i < S) : sN c n + nz c n ≤ S * nz c n := by
  induction n with
  | zero => exact Nat.le_refl _
  | succ n ih =>
    have h1 := ih (fun i hi => h i (by omega))
    have h2 := h n (by omega)
    unfold sN nz
    by_cases e : 0 < c n
    · rw [if_pos e, Nat.mul_succ]
      omega
    · rw [if_neg e]
      have : c n = 0 := by omega
      rw [this]
      exact h1
theorem sN_up {f : Nat → Nat} {p n : Nat} (hp : p < n) : sN (fun i => if i = p then f i + 1 else f i) n = sN f n + 1 := by
  have low : ∀ m, m ≤ p → sN (fun i => if i = p then f i + 1 else f i) m = sN f m := by
    intro m
    induction m with
    | zero => intro _; rfl
    | succ m ih =>
      intro hm
      show sN _ m + (if m = p then f m + 1 else f m) = sN f m + f m
      rw [ih (by omega), if_neg (by omega)]
  induction n with
  | zero => omega
  | succ n ih =>
    show sN _ n + (if n = p then f n + 1 else f n) = sN f n + f n + 1
    by_cases e : n = p
    · rw [if_pos e, low n (by omega)]; omega
    · rw [if_neg e, ih (by omega)]; omega
/-- who is first when so many were looked at -/
def pk (r : Int32) (c : Nat → Nat) : Nat → Int
  | 0 => -1
  | k + 1 => if 0 < c k ∧ (pk r c k < 0 ∨ r = 98 ∨ (r = 108 ∧ c (pk r c k).toNat < c k)) then (k : Int) else pk r c k
theorem pk_s {r : Int32} {c : Nat → Nat} {k : Nat} : pk r c (k + 1) = if 0 < c k ∧ (pk r c k < 0 ∨ r = 98 ∨ (r = 108 ∧ c (pk r c k).toNat < c k)) then (k : Int) else pk r c k := rfl
theorem pk_rg {r : Int32} {c : Nat → Nat} {k : Nat} : -1 ≤ pk r c k ∧ pk r c k < k ∧ (0 ≤ pk r c k → 0 < c (pk r c k).toNat) := by
  induction k with
  | zero => exact ⟨Int.le_refl (-1), (by decide : (-1 : Int) < 0), fun h => absurd h (by decide : ¬ (0 : Int) ≤ -1)⟩
  | succ k ih =>
    rw [pk_s]
    by_cases h : 0 < c k ∧ (pk r c k < 0 ∨ r = 98 ∨ (r = 108 ∧ c (pk r c k).toNat < c k))
    · rw [if_pos h]
      exact ⟨by omega, by omega, fun _ => h.1⟩
    · rw [if_neg h]
      exact ⟨ih.1, by omega, ih.2.2⟩
theorem pk_ex {r : Int32} {c : Nat → Nat} {k i : Nat} (hi : i < k) (h : 0 < c i) : 0 ≤ pk r c k := by
  induction k with
  | zero => omega
  | succ k ih =>
    rw [pk_s]
    by_cases h2 : 0 < c k ∧ (pk r c k < 0 ∨ r = 98 ∨ (r = 108 ∧ c (pk r c k).toNat < c k))
    · rw [if_pos h2]; omega
    · rw [if_neg h2]
      by_cases e : i = k
      · subst e
        by_cases h3 : pk r c i < 0
        · exact absurd ⟨h, Or.inl h3⟩ h2
        · omega
      · exact ih (by omega)
def gv (r : Int32) (n : Nat) (S : (Nat → Nat) × (Nat → Nat)) : (Nat → Nat) × (Nat → Nat) := (fun i => if i = (pk r S.2 n).toNat then S.1 i + 1 else S.1 i, fun i => if i = (pk r S.2 n).toNat then 0 else S.2 i)
def gS (r : Int32) (n : Nat) (S : (Nat → Nat) × (Nat → Nat)) : Nat → (Nat → Nat) × (Nat → Nat)
  | 0 => S
  | j + 1 => gv r n (gS r n S j)
theorem gS_s {r : Int32} {n j : Nat} {S : (Nat → Nat) × (Nat → Nat)} : gS r n S (j + 1) = gv r n (gS r n S j) := rfl
theorem gS_le {r : Int32} {n j : Nat} {S : (Nat → Nat) × (Nat → Nat)} (i : Nat) : (gS r n S j).2 i ≤ S.2 i := by
  induction j with
  | zero => exact Nat.le_refl _
  | succ j ih =>
    show (if i = (pk r (gS r n S j).2 n).toNat then 0 else (gS r n S j).2 i) ≤ _
    split <;> omega
theorem gS_nz {r : Int32} {n j : Nat} {S : (Nat → Nat) × (Nat → Nat)} (h : j ≤ nz S.2 n) : nz (gS r n S j).2 n + j = nz S.2 n ∧ sN (gS r n S j).1 n = sN S.1 n + j := by
  induction j with
  | zero => exact ⟨rfl, rfl⟩
  | succ j ih =>
    obtain ⟨h1, h2⟩ := ih (by omega)
    obtain ⟨i, hi, hc⟩ := nz_ex (c := (gS r n S j).2) (n := n) (by omega)
    have p0 := pk_ex (r := r) hi hc
    obtain ⟨-, p2, p3⟩ := pk_rg (r := r) (c := (gS r n S j).2) (k := n)
    refine ⟨?_, ?_⟩
    · have := nz_up (c := (gS r n S j).2) (p := (pk r (gS r n S j).2 n).toNat) (n := n) (by omega) (p3 p0)
      show nz (fun i => if i = (pk r (gS r n S j).2 n).toNat then 0 else (gS r n S j).2 i) n + (j + 1) = _
      omega
    · show sN (fun i => if i = (pk r (gS r n S j).2 n).toNat then (gS r n S j).1 i + 1 else (gS r n S j).1 i) n = _
      rw [sN_up (by omega), h2]
      omega
theorem gS_pk {r : Int32} {n j : Nat} {S : (Nat → Nat) × (Nat → Nat)} (h : j < nz S.2 n) : 0 ≤ pk r (gS r n S j).2 n := by
  have h1 := (gS_nz (r := r) (n := n) (j := j) (S := S) (by omega)).1
  obtain ⟨i, hi, hc⟩ := nz_ex (c := (gS r n S j).2) (n := n) (by omega)
  exact pk_ex hi hc
section SH
variable {mb ni N n v S : Nat} {r : Int32} {w c : Nat → Nat} {A : AM} {W : WM} {K : KS} {M : MS} {σ : Sto}
/-- the class's cuts -/
def sCK (v S : Nat) (w : Nat → Nat) (K : KS) : Nat → KS
  | 0 => K
  | k + 1 => kL (kL (sCK v S w K k) 11 0 k (iL (v * w k / S : Nat))) 12 0 k (iL (v * w k % S : Nat))
theorem sCK_1 {k : Nat} : (sCK v S w K k).1 = K.1 ∧ (sCK v S w K k).2.2 = K.2.2 ∧ ∀ g, g ≠ 11 → g ≠ 12 → (sCK v S w K k).2.1 g = K.2.1 g := by
  induction k with
  | zero => exact ⟨rfl, rfl, fun _ _ _ => rfl⟩
  | succ k ih =>
    refine ⟨ih.1, ih.2.1, fun g h1 h2 => ?_⟩
    rw [← ih.2.2 g h1 h2]
    funext j q
    show (kL (kL (sCK v S w K k) 11 0 k _) 12 0 k _).2.1 g j q = _
    rw [kL_v, if_neg (fun z => h2 z.1), kL_v, if_neg (fun z => h1 z.1)]
theorem sCK_v {k i : Nat} (hi : i < k) : (sCK v S w K k).2.1 11 0 i = iL (v * w i / S : Nat) ∧ (sCK v S w K k).2.1 12 0 i = iL (v * w i % S : Nat) := by
  induction k with
  | zero => omega
  | succ k ih =>
    simp only [sCK, kL_v, Nat.reduceEqDiff, false_and, true_and, if_false]
    by_cases e : i = k
    · subst e
      simp
    · simp only [if_neg e]
      exact ih (by omega)
theorem x_all (hG : Gk ni A W) (h1 : K.1 9 0 1 = iI (n : Nat)) (hn : n ≤ 12) (hw : ∀ i, i < n → w i ≤ 9999 ∧ K.1 10 0 i = iI (w i : Nat)) (hN : 300 ≤ N) : f_X7_allWeights N (ovk A W K σ) (A 9 0) = some (iL (sN w n : Nat)) := by
  unfold f_X7_allWeights b_X7_allWeights_4
  refine lp_for (n := n) (st := fun k => (ovk A W K σ, A 9 0, iL (sN w k : Nat), iI (k : Nat))) (fun k hk KK => ?_) (fun KK => ?_) N 0 (Nat.zero_le _) (by omega)
  · dsimp only
    unfold b_X7_allWeights_4_body
    obtain ⟨w1, w2⟩ := hw k hk
    simp only [xI_9_1 hG, xR_9_0 hG, xA_10 hG, Option.bind_some, h1, in12 (show k < 12 by omega), cl12 (show k < 12 by omega), if_true, w2, iI_iL (show -2147483648 ≤ ((w k : Nat) : Int) ∧ ((w k : Nat) : Int) < 2147483648 by omega), lt_, jI_s, jL_add]
    rw [if_neg (fun z => by rw [jI_le (by omega) (by omega)] at z; omega)]
    rfl
  · dsimp only
    unfold b_X7_allWeights_4_body
    rw [xI_9_1 hG, Option.bind_some, h1, if_pos (by rw [jI_le (by omega) (by omega)]; omega)]
theorem x_cutP (hG : Gk ni A W) (h1 : K.1 9 0 1 = iI (n : Nat)) (hn : n ≤ 12) (hw : ∀ i, i < n → w i ≤ 9999 ∧ K.1 10 0 i = iI (w i : Nat)) (hv : v ≤ 1000000000000) (hS : S = sN w n) (hS0 : 0 < S) (hN : 300 ≤ N) : f_X7_cutParts N (ovk A W K σ) (A 9 0) (iL (v : Nat)) (iL (S : Nat)) = some (iL ((v - sN (fun i => v * w i / S) n : Nat) : Int), ovk A W (sCK v S w K n) σ) := by
  have hS2 : S ≤ 119988 := by
    have := sN_le (g := w) (b := 9999) (n := n) (fun j hj => (hw j hj).1)
    omega
  unfold f_X7_cutParts b_X7_cutParts_6
  refine lp_for (n := n) (st := fun k => (ovk A W (sCK v S w K k) σ, A 9 0, iL (v : Nat), iL (S : Nat), iL ((v - sN (fun i => v * w i / S) k : Nat) : Int), iI (k : Nat))) (fun k hk KK => ?_) (fun KK => ?_) N 0 (Nat.zero_le _) (by omega)
  · dsimp only
    unfold b_X7_cutParts_6_body
    obtain ⟨w1, w2⟩ := hw k hk
    have k1 := sCK_1 (v := v) (S := S) (w := w) (K := K) (k := k)
    have hm : v * w k ≤ 1000000000000 * 9999 := Nat.mul_le_mul hv w1
    have hdv : v * w k / S ≤ v * w k := Nat.div_le_self _ _
    have hsub : sN (fun i => v * w i / S) (k + 1) ≤ v := by
      have e1 := sN_cut (v := v) (S := S) (w := w) (k + 1)
      have e2 : v * sN w (k + 1) ≤ v * S := Nat.mul_le_mul_left v (by rw [hS]; exact sN_mono (by omega))
      exact Nat.le_of_mul_le_mul_right (by omega) hS0
    have hsub2 : sN (fun i => v * w i / S) (k + 1) = sN (fun i => v * w i / S) k + v * w k / S := rfl
    have z0 : ¬ iL (S : Nat) = 0 := fun z => by rw [iL_lit 0, jL_eq (by omega) (by decide)] at z; omega
    rw [xI_9_1 hG, Option.bind_some, k1.1, h1, if_neg (fun z => by rw [jI_le (by omega) (by omega)] at z; omega)]
    have emd : iL ((v * w k : Nat) : Int) - iL ((v * w k / S * S : Nat) : Int) = iL ((v * w k % S : Nat) : Int) := by
      have dm := Nat.div_add_mod (v * w k) S
      rw [Nat.mul_comm] at dm
      rw [iL_subN (by omega)]
      exact congrArg (fun x : Nat => iL (x : Int)) (by omega)
    simp only [xR_9_0 hG, xA_10 hG, xR_9_2 hG, xR_9_4 hG, xS_11 hG, xS_12 hG, xA_11 hG, Option.bind_some, k1.1, in12 (show k < 12 by omega), cl12 (show k < 12 by omega), if_true, w2, iI_iL (show -2147483648 ≤ ((w k : Nat) : Int) ∧ ((w k : Nat) : Int) < 2147483648 by omega), lt_, jI_s, jL_mul, if_neg z0, emd, jL_dv (show v * w k < 9223372036854775808 by omega) (show S < 9223372036854775808 by omega), kL_v, Nat.reduceEqDiff, false_and, if_false, and_self, iL_subN (show v * w k / S ≤ v - sN (fun i => v * w i / S) k by omega)]
    have e : v - sN (fun i => v * w i / S) k - v * w k / S = v - sN (fun i => v * w i / S) (k + 1) := by omega
    rw [e]
    rfl
  · dsimp only
    unfold b_X7_cutParts_6_body
    rw [xI_9_1 hG, Option.bind_some, sCK_1.1, h1, if_pos (by rw [jI_le (by omega) (by omega)]; omega)]
theorem x_ahead (hG : Gk ni A W) {k p : Nat} (hk : k < 12) (hp : p < 12) (h1 : K.2.1 12 0 k = iL (c k : Nat)) (h2 : K.2.1 12 0 p = iL (c p : Nat)) (b1 : c k < 1000000000) (b2 : c p < 1000000000) : f_X7_isAhead (ovk A W K σ) (A 9 0) (iI (k : Nat)) (iI (p : Nat)) r = some (if r = 98 ∨ (r = 108 ∧ c p < c k) then 1 else 0) := by
  unfold f_X7_isAhead
  by_cases r1 : r = 98
  · rw [if_pos r1, if_pos (Or.inl r1)]
  rw [if_neg r1]
  by_cases r2 : r = 108
  · rw [if_pos r2]
    simp only [xR_9_4 hG, xA_12 hG, Option.bind_some, in12 hk, cl12 hk, in12 hp, cl12 hp, if_true, h1, h2]
    by_cases h : c p < c k
    · rw [if_neg (fun z => by rw [jL_le (by omega) (by omega)] at z; omega), if_pos (Or.inr ⟨r2, h⟩)]
    · rw [if_pos (by rw [jL_le (by omega) (by omega)]; omega), if_neg (fun z => by rcases z with z | z; exact r1 z; exact h z.2)]
  · rw [if_neg r2, if_neg (fun z => by rcases z with z | z; exact r1 z; exact r2 z.1)]
theorem x_give (hG : Gk ni A W) (h3 : K.1 9 0 3 = iI (n : Nat)) (hn : n ≤ 12) (hc : ∀ i, i < n → c i < 1000000000 ∧ K.2.1 12 0 i = iL (c i : Nat)) (h0 : 0 ≤ pk r c n) (hN : 300 ≤ N) : f_X7_giveOne N (ovk A W K σ) (A 9 0) r = some ((), ovk A W (kL (kL K 11 0 (pk r c n).toNat (K.2.1 11 0 (pk r c n).toNat + 1)) 12 0 (pk r c n).toNat 0) σ) := by
  unfold f_X7_giveOne b_X7_giveOne_4
  refine lp_for (n := n) (st := fun k => (ovk A W K σ, A 9 0, r, iI (pk r c k), iI (k : Nat))) (fun k hk KK => ?_) (fun KK => ?_) N 0 (Nat.zero_le _) (by omega)
  · dsimp only
    unfold b_X7_giveOne_4_body b_X7_giveOne_37 b_X7_giveOne_39
    obtain ⟨c1, c2⟩ := hc k hk
    obtain ⟨p1, p2, p3⟩ := pk_rg (r := r) (c := c) (k := k)
    rw [xI_9_3 hG, Option.bind_some, h3, if_neg (fun z => by rw [jI_le (by omega) (by omega)] at z; omega), xR_9_4 hG, Option.bind_some, xA_12 hG, in12 (show k < 12 by omega), if_pos rfl, cl12 (show k < 12 by omega), Option.bind_some, c2, pk_s]
    dsimp only [lt_]
    rw [jI_s]
    by_cases d1 : 0 < c k
    · rw [if_neg (fun z => by rw [iL_lit 0, jL_le (by omega) (by omega)] at z; omega)]
      by_cases d2 : pk r c k < 0
      · rw [if_pos (by rw [iI_lit 0, iI_lt ⟨by omega, by omega⟩ ⟨by decide, by decide⟩]; exact d2), if_pos ⟨d1, Or.inl d2⟩]
      · rw [if_neg (fun z => d2 (by rw [iI_lit 0, iI_lt ⟨by omega, by omega⟩ ⟨by decide, by decide⟩] at z; exact z))]
        obtain ⟨q, hq⟩ : ∃ q : Nat, pk r c k = q := ⟨(pk r c k).toNat, by omega⟩
        rw [hq] at p1 p2 p3 d2 ⊢
        obtain ⟨e1, e2⟩ := hc q (by omega)
        rw [xO_9 hG, Option.bind_some, x_ahead hG (show k < 12 by omega) (show q < 12 by omega) c2 e2 c1 e1, Option.bind_some, show ((q : Nat) : Int).toNat = q from rfl]
        by_cases d3 : r = 98 ∨ (r = 108 ∧ c q < c k)
        · rw [if_pos d3, if_neg (by decide), if_pos ⟨d1, Or.inr d3⟩]
        · rw [if_neg d3, if_pos rfl, if_neg (fun z => by rcases z.2 with z | z; exact d2 z; exact d3 z)]
    · rw [if_pos (by rw [iL_lit 0, jL_le (by omega) (by omega)]; omega), if_neg (fun z => d1 z.1)]
  · dsimp only
    unfold b_X7_giveOne_4_body
    obtain ⟨p1, p2, p3⟩ := pk_rg (r := r) (c := c) (k := n)
    obtain ⟨q, hq⟩ : ∃ q : Nat, pk r c n = q := ⟨(pk r c n).toNat, by omega⟩
    rw [hq] at p2 ⊢
    rw [xI_9_3 hG, Option.bind_some, h3, if_pos (by rw [jI_le (by omega) (by omega)]; omega), if_neg (fun z => by rw [iI_lit 0, jI_lt (by omega) (by omega)] at z; omega)]
    simp only [xR_9_2 hG, xA_11 hG, xS_11 hG, xR_9_4 hG, xS_12 hG, Option.bind_some, in12 (show q < 12 by omega), cl12 (show q < 12 by omega), if_true, show ((q : Nat) : Int).toNat = q from rfl]
/-- the class's gifts -/
def sGK (r : Int32) (n : Nat) (S : (Nat → Nat) × (Nat → Nat)) (K : KS) : Nat → KS
  | 0 => K
  | j + 1 => kL (kL (sGK r n S K j) 11 0 (pk r (gS r n S j).2 n).toNat ((sGK r n S K j).2.1 11 0 (pk r (gS r n S j).2 n).toNat + 1)) 12 0 (pk r (gS r n S j).2 n).toNat 0
theorem sGK_s {T : (Nat → Nat) × (Nat → Nat)} {j : Nat} : sGK r n T K (j + 1) = kL (kL (sGK r n T K j) 11 0 (pk r (gS r n T j).2 n).toNat ((sGK r n T K j).2.1 11 0 (pk r (gS r n T j).2 n).toNat + 1)) 12 0 (pk r (gS r n T j).2 n).toNat 0 := rfl
theorem sGK_1 {T : (Nat → Nat) × (Nat → Nat)} {j : Nat} : (sGK r n T K j).1 = K.1 ∧ (sGK r n T K j).2.2 = K.2.2 ∧ ∀ g, g ≠ 11 → g ≠ 12 → (sGK r n T K j).2.1 g = K.2.1 g := by
  induction j with
  | zero => exact ⟨rfl, rfl, fun _ _ _ => rfl⟩
  | succ j ih =>
    refine ⟨ih.1, ih.2.1, fun g h1 h2 => ?_⟩
    rw [← ih.2.2 g h1 h2]
    funext a b
    rw [sGK_s, kL_v, if_neg (fun z => h2 z.1), kL_v, if_neg (fun z => h1 z.1)]
theorem sGK_v {T : (Nat → Nat) × (Nat → Nat)} {j : Nat} (h : ∀ i, i < n → K.2.1 11 0 i = iL (T.1 i : Nat) ∧ K.2.1 12 0 i = iL (T.2 i : Nat)) (hj : j ≤ nz T.2 n) : ∀ i, i < n → (sGK r n T K j).2.1 11 0 i = iL ((gS r n T j).1 i : Nat) ∧ (sGK r n T K j).2.1 12 0 i = iL ((gS r n T j).2 i : Nat) := by
  induction j with
  | zero => exact h
  | succ j ih =>
    intro i hi
    have ih := ih (by omega)
    have p0 := gS_pk (r := r) (S := T) (n := n) (j := j) (by omega)
    have p2 := (pk_rg (r := r) (c := (gS r n T j).2) (k := n)).2.1
    obtain ⟨q, hq⟩ : ∃ q : Nat, pk r (gS r n T j).2 n = q := ⟨(pk r (gS r n T j).2 n).toNat, by omega⟩
    have hqn : q < n := by omega
    rw [sGK_s, gS_s]
    unfold gv
    rw [hq, show ((q : Nat) : Int).toNat = q from rfl]
    dsimp only
    rw [kL_v, if_neg (by simp), kL_v, kL_v, kL_v]
    by_cases e : i = q
    · subst e
      rw [if_pos ⟨rfl, rfl, rfl⟩, if_pos rfl, if_pos ⟨rfl, rfl, rfl⟩, if_pos rfl, (ih i hi).1, iL_lit 1, jL_add]
      exact ⟨rfl, rfl⟩
    · rw [if_neg (fun z => e z.2.2), if_neg e, if_neg (fun z => e z.2.2), if_neg (by simp), if_neg e]
      exact ih i hi
theorem x_gives (hG : Gk ni A W) {T : (Nat → Nat) × (Nat → Nat)} {L : Nat} (h3 : K.1 9 0 3 = iI (n : Nat)) (hn : n ≤ 12) (h : ∀ i, i < n → K.2.1 11 0 i = iL (T.1 i : Nat) ∧ K.2.1 12 0 i = iL (T.2 i : Nat)) (hb : ∀ i, i < n → T.2 i < 1000000000) (hL : L ≤ nz T.2 n) (hN : 300 ≤ N) : b_X7_split_37 N (ovk A W K σ) (A 9 0) r (iI (L : Nat)) 0 = some (iI (L : Nat), ovk A W (sGK r n T K L) σ) := by
  have hnz := nz_le (c := T.2) (n := n)
  unfold b_X7_split_37
  refine lp_for (n := L) (st := fun k => (ovk A W (sGK r n T K k) σ, A 9 0, r, iI (L : Nat), iI (k : Nat))) (fun k hk KK => ?_) (fun KK => ?_) N 0 (Nat.zero_le _) (by omega)
  · dsimp only
    unfold b_X7_split_37_body
    have hv := sGK_v (r := r) (n := n) (T := T) (K := K) (j := k) h (by omega)
    rw [if_neg (fun z => by rw [jI_le (by omega) (by omega)] at z; omega), xO_9 hG, Option.bind_some, x_give hG (n := n) (c := (gS r n T k).2) (by rw [sGK_1.1]; exact h3) hn (fun i hi => ⟨Nat.lt_of_le_of_lt (gS_le i) (hb i hi), (hv i hi).2⟩) (gS_pk (by omega)) hN]
    dsimp only [b2, lt_]
    rw [jI_s]
    rfl
  · dsimp only
    unfold b_X7_split_37_body
    rw [if_pos (by rw [jI_le (by omega) (by omega)]; omega)]
end SH
