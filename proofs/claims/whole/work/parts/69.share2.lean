/-! ===== share: the reference's loops; share ===== -/
section SM
variable {mb ni N n v S : Nat} {r : Int32} {w c : Nat → Nat} {A : AM} {W : WM} {K : KS} {M : MS} {σ : Sto}
def sCN (v S : Nat) (w : Nat → Nat) (M : MS) : Nat → MS
  | 0 => M
  | k + 1 => uL (uL (sCN v S w M k) 31 k (iL (v * w k / S : Nat))) 32 k (iL (v * w k % S : Nat))
theorem sCN_1 {k : Nat} : (sCN v S w M k).1 = M.1 ∧ (sCN v S w M k).2.1 = M.2.1 ∧ ∀ g, g ≠ 31 → g ≠ 32 → (sCN v S w M k).2.2 g = M.2.2 g := by
  induction k with
  | zero => exact ⟨rfl, rfl, fun _ _ _ => rfl⟩
  | succ k ih =>
    refine ⟨ih.1, ih.2.1, fun g h1 h2 => ?_⟩
    rw [← ih.2.2 g h1 h2]
    funext q
    show (uL (uL (sCN v S w M k) 31 k _) 32 k _).2.2 g q = _
    rw [uL_v, if_neg (fun z => h2 z.1), uL_v, if_neg (fun z => h1 z.1)]
theorem sCN_v {k i : Nat} (hi : i < k) : (sCN v S w M k).2.2 31 i = iL (v * w i / S : Nat) ∧ (sCN v S w M k).2.2 32 i = iL (v * w i % S : Nat) := by
  induction k with
  | zero => omega
  | succ k ih =>
    simp only [sCN, uL_v, Nat.reduceEqDiff, false_and, true_and, if_false]
    by_cases e : i = k
    · subst e
      simp
    · simp only [if_neg e]
      exact ih (by omega)
def sGN (r : Int32) (n : Nat) (T : (Nat → Nat) × (Nat → Nat)) (M : MS) : Nat → MS
  | 0 => M
  | j + 1 => uL (uL (sGN r n T M j) 31 (pk r (gS r n T j).2 n).toNat ((sGN r n T M j).2.2 31 (pk r (gS r n T j).2 n).toNat + 1)) 32 (pk r (gS r n T j).2 n).toNat 0
theorem sGN_s {T : (Nat → Nat) × (Nat → Nat)} {j : Nat} : sGN r n T M (j + 1) = uL (uL (sGN r n T M j) 31 (pk r (gS r n T j).2 n).toNat ((sGN r n T M j).2.2 31 (pk r (gS r n T j).2 n).toNat + 1)) 32 (pk r (gS r n T j).2 n).toNat 0 := rfl
theorem sGN_1 {T : (Nat → Nat) × (Nat → Nat)} {j : Nat} : (sGN r n T M j).1 = M.1 ∧ (sGN r n T M j).2.1 = M.2.1 ∧ ∀ g, g ≠ 31 → g ≠ 32 → (sGN r n T M j).2.2 g = M.2.2 g := by
  induction j with
  | zero => exact ⟨rfl, rfl, fun _ _ _ => rfl⟩
  | succ j ih =>
    refine ⟨ih.1, ih.2.1, fun g h1 h2 => ?_⟩
    rw [← ih.2.2 g h1 h2]
    funext b
    rw [sGN_s, uL_v, if_neg (fun z => h2 z.1), uL_v, if_neg (fun z => h1 z.1)]
theorem sGN_v {T : (Nat → Nat) × (Nat → Nat)} {j : Nat} (h : ∀ i, i < n → M.2.2 31 i = iL (T.1 i : Nat) ∧ M.2.2 32 i = iL (T.2 i : Nat)) (hj : j ≤ nz T.2 n) : ∀ i, i < n → (sGN r n T M j).2.2 31 i = iL ((gS r n T j).1 i : Nat) ∧ (sGN r n T M j).2.2 32 i = iL ((gS r n T j).2 i : Nat) := by
  induction j with
  | zero => exact h
  | succ j ih =>
    intro i hi
    have ih := ih (by omega)
    have p0 := gS_pk (r := r) (S := T) (n := n) (j := j) (by omega)
    have p2 := (pk_rg (r := r) (c := (gS r n T j).2) (k := n)).2.1
    obtain ⟨q, hq⟩ : ∃ q : Nat, pk r (gS r n T j).2 n = q := ⟨(pk r (gS r n T j).2 n).toNat, by omega⟩
    have hqn : q < n := by omega
    rw [sGN_s, gS_s]
    unfold gv
    rw [hq, show ((q : Nat) : Int).toNat = q from rfl]
    dsimp only
    rw [uL_v, if_neg (by simp), uL_v, uL_v, uL_v]
    by_cases e : i = q
    · subst e
      rw [if_pos ⟨rfl, rfl⟩, if_pos rfl, if_pos ⟨rfl, rfl⟩, if_pos rfl, (ih i hi).1, iL_lit 1, jL_add]
      exact ⟨rfl, rfl⟩
    · rw [if_neg (fun z => e z.2), if_neg e, if_neg (fun z => e z.2), if_neg (by simp), if_neg e]
      exact ih i hi
theorem m_pick {k188 : Sto × Nat × Int32 × Int64 × Int64 → Option (Int32 × Sto)} {v6 v8 : Int64} (h3 : M.1 34 = iI (n : Nat)) (hn : n ≤ 12) (hc : ∀ i, i < n → c i < 1000000000 ∧ M.2.2 32 i = iL (c i : Nat)) (h0 : 0 ≤ pk r c n) (hN : 300 ≤ N) : b_X12_share_202 N k188 (ov mb M σ) mb r v6 v8 (-1) 0 = k188 (ov mb (uL (uL M 31 (pk r c n).toNat (M.2.2 31 (pk r c n).toNat + 1)) 32 (pk r c n).toNat 0) σ, mb, r, v6, v8 + 1) := by
  unfold b_X12_share_202
  refine lp_for (n := n) (st := fun k => (ov mb M σ, mb, r, v6, v8, iI (pk r c k), iI (k : Nat))) (fun k hk KK => ?_) (fun KK => ?_) N 0 (Nat.zero_le _) (by omega)
  · dsimp only
    unfold b_X12_share_202_body b_X12_share_258 b_X12_share_262
    obtain ⟨c1, c2⟩ := hc k hk
    obtain ⟨p1, p2, p3⟩ := pk_rg (r := r) (c := c) (k := k)
    simp only [oI_34, oR_32, oA_32, Option.bind_some, h3, in12 (show k < 12 by omega), cl12 (show k < 12 by omega), if_true, c2, pk_s, lt_, jI_s]
    rw [if_neg (fun z => by rw [jI_le (by omega) (by omega)] at z; omega)]
    by_cases d1 : 0 < c k
    · rw [if_neg (fun z => by rw [iL_lit 0, jL_le (by omega) (by omega)] at z; omega)]
      by_cases d2 : pk r c k < 0
      · rw [if_pos (by rw [iI_lit 0, iI_lt ⟨by omega, by omega⟩ ⟨by decide, by decide⟩]; exact d2), if_pos ⟨d1, Or.inl d2⟩]
      · rw [if_neg (fun z => d2 (by rw [iI_lit 0, iI_lt ⟨by omega, by omega⟩ ⟨by decide, by decide⟩] at z; exact z))]
        obtain ⟨q, hq⟩ : ∃ q : Nat, pk r c k = q := ⟨(pk r c k).toNat, by omega⟩
        rw [hq] at p1 p2 p3 d2 ⊢
        obtain ⟨e1, e2⟩ := hc q (by omega)
        rw [show ((q : Nat) : Int).toNat = q from rfl]
        by_cases r1 : r = 98
        · rw [if_pos r1, if_pos ⟨d1, Or.inr (Or.inl r1)⟩]
        rw [if_neg r1]
        by_cases r2 : r = 108
        · rw [if_pos r2]
          simp only [in12 (show q < 12 by omega), cl12 (show q < 12 by omega), if_true, Option.bind_some, e2]
          by_cases h : c q < c k
          · rw [if_neg (fun z => by rw [jL_le (by omega) (by omega)] at z; omega), if_pos ⟨d1, Or.inr (Or.inr ⟨r2, h⟩)⟩]
          · rw [if_pos (by rw [jL_le (by omega) (by omega)]; omega), if_neg (fun z => by rcases z.2 with z | z | z; exact d2 z; exact r1 z; exact h z.2)]
        · rw [if_neg r2, if_neg (fun z => by rcases z.2 with z | z | z; exact d2 z; exact r1 z; exact r2 z.1)]
    · rw [if_pos (by rw [iL_lit 0, jL_le (by omega) (by omega)]; omega), if_neg (fun z => d1 z.1)]
  · dsimp only
    unfold b_X12_share_202_body
    obtain ⟨p1, p2, p3⟩ := pk_rg (r := r) (c := c) (k := n)
    obtain ⟨q, hq⟩ : ∃ q : Nat, pk r c n = q := ⟨(pk r c n).toNat, by omega⟩
    rw [hq] at p2 ⊢
    rw [oI_34, Option.bind_some, h3, if_pos (by rw [jI_le (by omega) (by omega)]; omega)]
    simp only [oR_31, oA_31, oS_31, oR_32, oS_32, Option.bind_some, in12 (show q < 12 by omega), cl12 (show q < 12 by omega), if_true, show ((q : Nat) : Int).toNat = q from rfl, lt_]
theorem m_gives {T : (Nat → Nat) × (Nat → Nat)} {L : Nat} (h3 : M.1 34 = iI (n : Nat)) (hn : n ≤ 12) (h : ∀ i, i < n → M.2.2 31 i = iL (T.1 i : Nat) ∧ M.2.2 32 i = iL (T.2 i : Nat)) (hb : ∀ i, i < n → T.2 i < 1000000000) (hL : L ≤ nz T.2 n) (hN : 300 ≤ N) : b_X12_share_188 N (ov mb M σ) mb r (iL (L : Nat)) 0 = some (iI (L : Nat), ov mb (sGN r n T M L) σ) := by
  have hnz := nz_le (c := T.2) (n := n)
  unfold b_X12_share_188
  refine lp_for (n := L) (st := fun k => (ov mb (sGN r n T M k) σ, mb, r, iL (L : Nat), iL (k : Nat))) (fun k hk KK => ?_) (fun KK => ?_) N 0 (Nat.zero_le _) (by omega)
  · dsimp only
    unfold b_X12_share_188_body
    have hv := sGN_v (r := r) (n := n) (T := T) (M := M) (j := k) h (by omega)
    rw [if_neg (fun z => by rw [jL_le (by omega) (by omega)] at z; omega), m_pick (n := n) (c := (gS r n T k).2) (by rw [sGN_1.1]; exact h3) hn (fun i hi => ⟨Nat.lt_of_le_of_lt (gS_le i) (hb i hi), (hv i hi).2⟩) (gS_pk (by omega)) hN, iL_lit 1, jL_add]
    rfl
  · dsimp only
    unfold b_X12_share_188_body
    rw [if_pos (by rw [jL_le (by omega) (by omega)]; omega), iL_iI]
theorem m_allW (h1 : M.1 33 = iI (n : Nat)) (hn : n ≤ 12) (hw : ∀ i, i < n → w i ≤ 9999 ∧ M.2.1 30 i = iI (w i : Nat)) (v1 : Int64) (hN : 300 ≤ N) : f_X12_share N (ov mb M σ) mb v1 r = if r = 108 ∨ r = 102 ∨ r = 98 then b_X12_share_56 N (ov mb M σ) mb v1 r (iI (sN w n : Nat)) 1 else b_X12_share_56 N (ov mb M σ) mb v1 r (iI (sN w n : Nat)) 0 := by
  unfold f_X12_share b_X12_share_6
  refine lp_for (n := n) (st := fun k => (ov mb M σ, mb, v1, r, iI (sN w k : Nat), iI (k : Nat))) (fun k hk KK => ?_) (fun KK => ?_) N 0 (Nat.zero_le _) (by omega)
  · dsimp only
    unfold b_X12_share_6_body
    obtain ⟨w1, w2⟩ := hw k hk
    simp only [oI_33, oR_30, oA_30, Option.bind_some, h1, in12 (show k < 12 by omega), cl12 (show k < 12 by omega), if_true, w2, lt_, jI_s, jI_add]
    rw [if_neg (fun z => by rw [jI_le (by omega) (by omega)] at z; omega)]
    rfl
  · dsimp only
    unfold b_X12_share_6_body b_X12_share_51
    rw [oI_33, Option.bind_some, h1, if_pos (by rw [jI_le (by omega) (by omega)]; omega)]
    by_cases r1 : r = 108
    · rw [if_pos r1, if_pos (Or.inl r1)]
    rw [if_neg r1]
    by_cases r2 : r = 102
    · rw [if_pos r2, if_pos (Or.inr (Or.inl r2))]
    rw [if_neg r2]
    by_cases r3 : r = 98
    · rw [if_pos r3, if_pos (Or.inr (Or.inr r3))]
    · rw [if_neg r3, if_neg (fun z => by rcases z with z | z | z; exact r1 z; exact r2 z; exact r3 z)]
theorem m_cut (h1 : M.1 33 = iI (n : Nat)) (hn : n ≤ 12) (hw : ∀ i, i < n → w i ≤ 9999 ∧ M.2.1 30 i = iI (w i : Nat)) (hv : v ≤ 1000000000000) (hS : S = sN w n) (hS0 : 0 < S) (hN : 300 ≤ N) : b_X12_share_103 N (ov mb M σ) mb (iL (v : Nat)) r (iI (S : Nat)) (iL (v : Nat)) 0 = b_X12_share_188 N (ov mb (uI (uI (sCN v S w M n) 34 (iI (n : Nat))) 33 0) σ) mb r (iL ((v - sN (fun i => v * w i / S) n : Nat) : Int)) 0 := by
  have hS2 : S ≤ 119988 := by
    have := sN_le (g := w) (b := 9999) (n := n) (fun j hj => (hw j hj).1)
    omega
  unfold b_X12_share_103
  refine lp_for (n := n) (st := fun k => (ov mb (sCN v S w M k) σ, mb, iL (v : Nat), r, iI (S : Nat), iL ((v - sN (fun i => v * w i / S) k : Nat) : Int), iI (k : Nat))) (fun k hk KK => ?_) (fun KK => ?_) N 0 (Nat.zero_le _) (by omega)
  · dsimp only
    unfold b_X12_share_103_body
    obtain ⟨w1, w2⟩ := hw k hk
    have k1 := sCN_1 (v := v) (S := S) (w := w) (M := M) (k := k)
    have hm : v * w k ≤ 1000000000000 * 9999 := Nat.mul_le_mul hv w1
    have hdv : v * w k / S ≤ v * w k := Nat.div_le_self _ _
    have hsub : sN (fun i => v * w i / S) (k + 1) ≤ v := by
      have e1 := sN_cut (v := v) (S := S) (w := w) (k + 1)
      have e2 : v * sN w (k + 1) ≤ v * S := Nat.mul_le_mul_left v (by rw [hS]; exact sN_mono (by omega))
      exact Nat.le_of_mul_le_mul_right (by omega) hS0
    have hsub2 : sN (fun i => v * w i / S) (k + 1) = sN (fun i => v * w i / S) k + v * w k / S := rfl
    have z0 : ¬ iL (S : Nat) = 0 := fun z => by rw [iL_lit 0, jL_eq (by omega) (by decide)] at z; omega
    have s64 : Int32.toInt64 (iI (S : Nat)) = iL (S : Nat) := iI_iL ⟨by omega, by omega⟩
    have w64 : Int32.toInt64 (iI (w k : Nat)) = iL (w k : Nat) := iI_iL ⟨by omega, by omega⟩
    have q1 : ∀ (x : Int64), (uL (sCN v S w M k) 31 k x).2.1 = M.2.1 := fun x => k1.2.1
    rw [oI_33, Option.bind_some, k1.1, h1, if_neg (fun z => by rw [jI_le (by omega) (by omega)] at z; omega)]
    have emd : iL ((v * w k : Nat) : Int) - iL ((v * w k / S * S : Nat) : Int) = iL ((v * w k % S : Nat) : Int) := by
      have dm := Nat.div_add_mod (v * w k) S
      rw [Nat.mul_comm] at dm
      rw [iL_subN (by omega)]
      exact congrArg (fun x : Nat => iL (x : Int)) (by omega)
    simp only [oR_30, oA_30, oR_31, oR_32, oS_31, oS_32, oA_31, Option.bind_some, q1, k1.2.1, in12 (show k < 12 by omega), cl12 (show k < 12 by omega), if_true, w2, w64, s64, lt_, jI_s, jL_mul, if_neg z0, emd, jL_dv (show v * w k < 9223372036854775808 by omega) (show S < 9223372036854775808 by omega), uL_v, Nat.reduceEqDiff, false_and, if_false, and_self, iL_subN (show v * w k / S ≤ v - sN (fun i => v * w i / S) k by omega)]
    have e : v - sN (fun i => v * w i / S) k - v * w k / S = v - sN (fun i => v * w i / S) (k + 1) := by omega
    rw [e]
    rfl
  · dsimp only
    unfold b_X12_share_103_body
    have k1 := sCN_1 (v := v) (S := S) (w := w) (M := M) (k := n)
    rw [oI_33, Option.bind_some, k1.1, h1, if_pos (by rw [jI_le (by omega) (by omega)]; omega), Option.bind_some, oP_34, Option.bind_some, oP_33, Option.bind_some]
end SM
/-- only the sharing was written -/
theorem Rel.shr {n ni : Nat} {A : AM} {K K' : KS} {M M' : MS} {σ : Sto} (h : Rel n ni A K M σ) (t1 : ∀ g, g ≠ 9 → K'.1 g = K.1 g) (t2 : ∀ g, g ≠ 9 → g ≠ 11 → g ≠ 12 → K'.2.1 g = K.2.1 g) (t3 : K'.2.2 = K.2.2) (s1 : ∀ k, k ≠ 2 → k ≠ 8 → k ≠ 33 → k ≠ 34 → M'.1 k = M.1 k) (s2 : M'.2.1 = M.2.1) (s3 : ∀ k, k ≠ 31 → k ≠ 32 → M'.2.2 k = M.2.2 k) (hL : RW K' M') : Rel n ni A K' M' σ := by
  obtain ⟨a, b, c, d, e, f, g, i, j⟩ := h
  refine ⟨?_, ?_, ?_, ?_, ?_, ?_, hL, ?_, ?_⟩
  · unfold RV MV at *
    rw [s2, s3 3 (by decide) (by decide), t3]
    exact a
  · unfold RT at *
    rw [s1 7 (by decide) (by decide) (by decide) (by decide), s2, t1 2 (by decide), t1 3 (by decide)]
    exact b
  · unfold RC at *
    rw [s2, t1 25 (by decide)]
    exact c
  · unfold RR at *
    rw [s2, s3 12 (by decide) (by decide), t3]
    exact d
  · unfold RS StT at *
    rw [s1 20 (by decide) (by decide) (by decide) (by decide), s1 21 (by decide) (by decide) (by decide) (by decide), s2, t1 26 (by decide), t1 27 (by decide), t1 28 (by decide), t3]
    exact e
  · unfold RN at *
    rw [s1 29 (by decide) (by decide) (by decide) (by decide), s2, s3 27 (by decide) (by decide), t1 0 (by decide), t1 29 (by decide), t1 31 (by decide), t2 30 (by decide) (by decide) (by decide), t3]
    exact f
  · have ho : ∀ c, owedB K' c = owedB K c := fun c => by
      cases c with
      | zero => unfold owedB; rw [t2 13 (by decide) (by decide) (by decide)]
      | succ c => unfold owedB; rw [t2 16 (by decide) (by decide) (by decide)]
    unfold RLo at *
    simp only [ho]
    rw [s1 41 (by decide) (by decide) (by decide) (by decide), t1 13 (by decide), s3 35 (by decide) (by decide), s3 36 (by decide) (by decide), s3 37 (by decide) (by decide), t2 14 (by decide) (by decide) (by decide), t2 15 (by decide) (by decide) (by decide), t2 16 (by decide) (by decide) (by decide)]
    exact i
  · unfold RE LE at *
    rw [s1 46 (by decide) (by decide) (by decide) (by decide), s1 47 (by decide) (by decide) (by decide) (by decide), s1 51 (by decide) (by decide) (by decide) (by decide), s2, s3 45 (by decide) (by decide), t1 17 (by decide), t1 18 (by decide), t1 19 (by decide), t1 21 (by decide), t1 22 (by decide), t1 23 (by decide), t1 24 (by decide), t2 20 (by decide) (by decide) (by decide)]
    exact j
theorem sumL_sN {f : Nat → Int64} {g : Nat → Nat} {n : Nat} (h : ∀ i, i < n → f i = iL (g i : Nat)) : sumL f n = iL (sN g n : Nat) := by
  induction n with
  | zero => rfl
  | succ n ih =>
    unfold sumL sN
    rw [ih (fun i hi => h i (by omega)), h n (by omega), jL_add]
theorem p_share {xb mb ob N : Nat} (hN : 1000 ≤ N) : A_share (I0 xb mb ob) N xb mb ob := by
  intro v1 r
  refine ag_in (fun n σ sz ni A W K M hn hA ho hC hR hF => ?_)
  subst hA
  have bb2 : ∀ {α β γ : Type} (x : α) (y : β) (f : α → β → Option γ), b2 (some (x, y)) f = f x y := fun _ _ _ => rfl
  obtain ⟨a1, a2, a3, a4, a5, a6, ⟨wc, pc, q1, q2, q3, q4, q5, q6, q7, q8, q9⟩, a8⟩ := id hR
  obtain ⟨w, hw⟩ := ch1 q7
  have no : ∀ (ρ : Sto) (k : Nat) (v1 : Int64) (v4 : Int32), k ≠ 0 → k < 100 → b_X12_share_89 N (ov mb M ρ) mb v1 r v4 (iI (k : Nat)) mb = some (0, ov mb (uI M 8 (iI (k : Nat))) ρ) := by
    intro ρ k v1 v4 h1 h2
    unfold b_X12_share_89
    rw [ov_isO, Option.bind_some, m_fails h2, decide_eq_true (by omega)]
    rfl
  have mall : ∀ ρ, f_X12_share N (ov mb M ρ) mb v1 r = if r = 108 ∨ r = 102 ∨ r = 98 then b_X12_share_56 N (ov mb M ρ) mb v1 r (iI (sN w wc : Nat)) 1 else b_X12_share_56 N (ov mb M ρ) mb v1 r (iI (sN w wc : Nat)) 0 := fun ρ => m_allW q4 q1 (fun i hi => ⟨(hw i hi).1, (hw i hi).2.2⟩) v1 (by omega)
  have bad : ∀ ρ (v1 : Int64) (v4 : Int32), b_X12_share_75 N (ov mb M ρ) mb v1 r v4 mb = some (0, ov mb (uI M 8 1) ρ) := by
    intro ρ v1 v4
    unfold b_X12_share_75
    exact no ρ 1 _ _ (by decide) (by decide)
  obtain ⟨k, k1, k2, rfl⟩ := iL_of v1
  have xr := x_range (v := k) (a := 0) (b := 1000000000000) (a' := 0) (b' := 1000000000000) rfl rfl ⟨k1, k2⟩ ⟨by decide, by decide⟩ ⟨by decide, by decide⟩
  have mr := m_range (v := k) (a := 0) (b := 1000000000000) (a' := 0) (b' := 1000000000000) rfl rfl ⟨k1, k2⟩ ⟨by decide, by decide⟩ ⟨by decide, by decide⟩
  by_cases hk : 0 ≤ k ∧ k ≤ 1000000000000
  case neg =>
    rw [if_neg hk] at xr
    rw [decide_eq_false hk] at mr
    refine ag_no (k := 1) (y := sz) rfl ho hC hR ?_ (by decide) (by decide) (fun ρ => ⟨uI M 8 1, 0, ?_, Sd.u8, u8_v⟩)
    · simp only [f_L_share, f_X11_share, hC.xo, Option.bind_some, xr, bs, b2]
      rfl
    · rw [mall]
      unfold b_X12_share_56
      rw [mr, Option.bind_some, if_pos rfl, bad]
      split <;> rfl
  rw [if_pos hk] at xr
  rw [decide_eq_true hk] at mr
  obtain ⟨v, rfl⟩ : ∃ v : Nat, k = v := ⟨k.toNat, by omega⟩
  by_cases hr : r = 108 ∨ r = 102 ∨ r = 98
  case neg =>
    refine ag_no (k := 1) (y := sz) rfl ho hC hR ?_ (by decide) (by decide) (fun ρ => ⟨uI M 8 1, 0, ?_, Sd.u8, u8_v⟩)
    · simp only [f_L_share, f_X11_share, hC.xo, Option.bind_some, xr, bs, b2]
      rw [if_neg (fun z => hr (Or.inl z)), if_neg (fun z => hr (Or.inr (Or.inl z))), if_neg (fun z => hr (Or.inr (Or.inr z)))]
      rfl
    · rw [mall, if_neg hr]
      unfold b_X12_share_56
      rw [mr, Option.bind_some, if_neg (by decide), if_pos rfl]
      exact bad _ _ _
  have xpre : f_X11_share N (ovk A W K σ) (A 0 0) (iL (v : Nat)) r = b_X11_share_37 N (ovk A W K σ) (A 0 0) (iL (v : Nat)) r := by
    unfold f_X11_share
    rw [xr, Option.bind_some]
    dsimp only [bs]
    by_cases r1 : r = 108
    · rw [if_pos r1]
    rw [if_neg r1]
    by_cases r2 : r = 102
    · rw [if_pos r2]
    rw [if_neg r2, if_pos (by rcases hr with z | z | z; exact absurd z r1; exact absurd z r2; exact z)]
  have xal := x_all (σ := σ) (N := N) (w := w) hC.1 q3 q1 (fun i hi => ⟨(hw i hi).1, (hw i hi).2.1⟩) (by omega)
  have hS2 : sN w wc ≤ 119988 := by
    have := sN_le (g := w) (b := 9999) (n := wc) (fun j hj => (hw j hj).1)
    omega
  obtain ⟨S, hS⟩ : ∃ S, S = sN w wc := ⟨_, rfl⟩
  rw [← hS] at xal hS2 mall
  by_cases hS0 : S = 0
  · refine ag_no (k := 2) (y := sz) rfl ho hC hR ?_ (by decide) (by decide) (fun ρ => ⟨uI M 8 2, 0, ?_, Sd.u8, u8_v⟩)
    · have key : f_X11_share N (ovk A W K σ) (A 0 0) (iL (v : Nat)) r = some (.inl 5, ovk A W K σ) := by
        rw [xpre]
        unfold b_X11_share_37
        rw [xR_0_8 hC.1, Option.bind_some, xO_9 hC.1, Option.bind_some, xal, Option.bind_some, hS0, if_pos (by decide)]
      rw [hC.eqk] at key
      simp only [f_L_share, hC.xo, Option.bind_some, key, bb2, bs]
      rfl
    · rw [mall, if_pos hr]
      unfold b_X12_share_56
      rw [mr, Option.bind_some, if_neg (by decide), if_neg (by decide), hS0, if_pos (by decide)]
      exact no ρ 2 _ _ (by decide) (by decide)
  have hv : v ≤ 1000000000000 := by omega
  obtain ⟨L, hL⟩ : ∃ L, L = v - sN (fun i => v * w i / S) wc := ⟨_, rfl⟩
  obtain ⟨T, hT⟩ : ∃ T : (Nat → Nat) × (Nat → Nat), T = (fun i => v * w i / S, fun i => v * w i % S) := ⟨_, rfl⟩
  have hb : ∀ i, T.2 i < S := fun i => by rw [hT]; exact Nat.mod_lt _ (by omega)
  have cut := sN_cut (v := v) (S := S) (w := w) wc
  have lev : sN (fun i => v * w i / S) wc ≤ v := by
    rw [← hS] at cut
    exact Nat.le_of_mul_le_mul_right (c := S) (by omega) (by omega)
  have hLn : L ≤ nz T.2 wc := by
    have e1 := nz_sum (c := T.2) (S := S) (n := wc) (fun i _ => hb i)
    have e2 : sN T.2 wc = L * S := by
      have e3 : L * S = v * S - sN (fun i => v * w i / S) wc * S := by rw [hL, Nat.sub_mul]
      rw [← hS] at cut
      rw [hT, e3]
      show sN (fun i => v * w i % S) wc = _
      omega
    by_cases h : L ≤ nz T.2 wc
    · exact h
    · have e4 : S * (nz T.2 wc + 1) ≤ S * L := Nat.mul_le_mul_left S (by omega)
      rw [Nat.mul_comm S L, ← e2, Nat.mul_succ] at e4
      omega
  have hnz := nz_le (c := T.2) (n := wc)
  obtain ⟨K1, hK1⟩ : ∃ K1, K1 = kL (kI (kI (sCK v S w K wc) 9 0 3 (iI (wc : Nat))) 9 0 1 0) 9 0 5 (iL (v : Nat)) := ⟨_, rfl⟩
  have k1 := sCK_1 (v := v) (S := S) (w := w) (K := K) (k := wc)
  have k1v : ∀ i, i < wc → K1.2.1 11 0 i = iL (T.1 i : Nat) ∧ K1.2.1 12 0 i = iL (T.2 i : Nat) := by
    intro i hi
    have := sCK_v (v := v) (S := S) (w := w) (K := K) hi
    rw [hK1, kL_v, if_neg (by simp), kL_v, if_neg (by simp), hT]
    exact this
  have k13 : K1.1 9 0 3 = iI (wc : Nat) := by
    rw [hK1, kL_o, kI_v, if_neg (by simp), kI_v, if_pos ⟨rfl, rfl, rfl⟩]
  have key : f_X11_share N (ovk A W K σ) (A 0 0) (iL (v : Nat)) r = some (.inr (iI (L : Nat)), ovk A W (sGK r wc T K1 L) σ) := by
    rw [xpre]
    unfold b_X11_share_37
    rw [xR_0_8 hC.1, Option.bind_some, xO_9 hC.1, Option.bind_some, xal, Option.bind_some, if_neg (fun z => by rw [iL_lit 0, jL_eq (by omega) (by decide)] at z; omega), Option.bind_some, xO_9 hC.1, Option.bind_some]
    unfold f_X7_split
    rw [xO_9 hC.1, Option.bind_some, xal, Option.bind_some]
    have emax : (if 1 < iL (S : Nat) then iL (S : Nat) else 1) = iL (S : Nat) := by
      by_cases z : S = 1
      · rw [z]; rfl
      · rw [if_pos (by rw [iL_lit 1, jL_lt (by decide) (by omega)]; omega)]
    rw [emax, x_cutP hC.1 q3 q1 (fun i hi => ⟨(hw i hi).1, (hw i hi).2.1⟩) hv hS (by omega) (by omega), bb2, ← hL]
    dsimp only [lt_]
    rw [xI_9_1 hC.1, Option.bind_some, k1.1, q3, xP_9_3 hC.1, Option.bind_some, xP_9_1 hC.1, Option.bind_some, xP_9_5 hC.1, Option.bind_some, iL_iI, ← hK1, x_gives (T := T) (n := wc) hC.1 k13 q1 k1v (fun i _ => by have := hb i; omega) hLn (by omega), bb2]
  rw [hC.eqk] at key
  obtain ⟨M1, hM1⟩ : ∃ M1, M1 = uI (uI (sCN v S w (uI M 8 0) wc) 34 (iI (wc : Nat))) 33 0 := ⟨_, rfl⟩
  have m1 := sCN_1 (v := v) (S := S) (w := w) (M := uI M 8 0) (k := wc)
  have m1v : ∀ i, i < wc → M1.2.2 31 i = iL (T.1 i : Nat) ∧ M1.2.2 32 i = iL (T.2 i : Nat) := by
    intro i hi
    have := sCN_v (v := v) (S := S) (w := w) (M := uI M 8 0) hi
    rw [hM1, uI_o, uI_o, hT]
    exact this
  have m13 : M1.1 34 = iI (wc : Nat) := by rw [hM1, uI_v, if_neg (by decide), uI_v, if_pos rfl]
  have g1 := sGK_1 (r := r) (n := wc) (K := K1) (T := T) (j := L)
  have g2 := sGN_1 (r := r) (n := wc) (M := M1) (T := T) (j := L)
  have gv1 := sGK_v (r := r) (n := wc) (K := K1) (T := T) (j := L) k1v hLn
  have gv2 := sGN_v (r := r) (n := wc) (M := M1) (T := T) (j := L) m1v hLn
  refine ag_ok (v := (iI (L : Nat)).toInt64) (y := sz) rfl ho ?_ (hC.cls (K' := sGK r wc T K1 L)) (fun ρ => ⟨sGN r wc T M1 L, iI (L : Nat), ?_, ?_, rfl, ?_⟩)
  · simp only [f_L_share, hC.xo, Option.bind_some, key, bb2, bs]
  · rw [mall, if_pos hr]
    unfold b_X12_share_56
    rw [mr, Option.bind_some, if_neg (by decide), if_neg (by decide), if_neg (fun z => by rw [iI_lit 0, jI_eq (by omega) (by decide)] at z; omega)]
    unfold b_X12_share_89
    rw [ov_isO, Option.bind_some, ff0, bb2, if_pos rfl]
    have q4' : (uI M 8 0).1 33 = iI (wc : Nat) := by rw [uI_v, if_neg (by decide)]; exact q4
    rw [m_cut q4' q1 (fun i hi => ⟨(hw i hi).1, (hw i hi).2.2⟩) hv hS (by omega) (by omega), ← hL, ← hM1]
    exact m_gives m13 q1 m1v (fun i _ => by have := hb i; omega) hLn (by omega)
  · rw [g2.1, hM1, uI_v, if_neg (by decide), uI_v, if_neg (by decide), m1.1]; exact u8_v
  · refine Rel.shr ((hR.up).vk (fun p u s h => hC.vcls h)) (fun g hg => ?_) (fun g hg1 hg2 hg3 => ?_) ?_ (fun k h1 h2 h3 h4 => ?_) ?_ (fun k hk1 hk2 => ?_) ⟨0, wc, by decide, q1, ?_, ?_, ?_, ?_, fun i hi => absurd hi (by omega), fun i hi => ?_, ?_⟩
    · rw [g1.1]
      funext j k
      rw [hK1, kL_o, kI_v, if_neg (fun z => hg z.1), kI_v, if_neg (fun z => hg z.1), k1.1]
    · rw [g1.2.2 g hg2 hg3, ← k1.2.2 g hg2 hg3]
      funext j k
      rw [hK1, kL_v, if_neg (fun z => hg1 z.1), kI_o, kI_o]
    · rw [g1.2.1, hK1, kL_r, kI_o, kI_o, k1.2.1]
    · rw [g2.1, hM1, uI_v, if_neg h3, uI_v, if_neg h4, m1.1, uI_v, if_neg h2]
    · rw [g2.2.1, hM1, uI_o, uI_o, m1.2.1, uI_o]
    · rw [g2.2.2 k hk1 hk2, hM1, uI_o, uI_o, m1.2.2 k hk1 hk2, uI_o]
    · rw [g1.1, hK1, kL_o, kI_v, if_pos ⟨rfl, rfl, rfl⟩]; rfl
    · rw [g2.1, hM1, uI_v, if_pos rfl]; rfl
    · rw [g1.1]; exact k13
    · rw [g2.1]; exact m13
    · rw [(gv1 i hi).1, (gv2 i hi).1]
    · rw [g1.2.2 9 (by decide) (by decide), sumL_sN (fun i hi => (gv1 i hi).1), (gS_nz hLn).2, hK1, kL_v, if_pos ⟨rfl, rfl, rfl⟩, hT]
      refine congrArg iL ?_
      show ((v : Nat) : Int) = ((sN (fun i => v * w i / S) wc + L : Nat) : Int)
      omega
