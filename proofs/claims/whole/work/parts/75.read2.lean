section RM
variable {mb len : Nat} {M : MS} {ρ : Sto}
theorem m_read_loop {N t : Nat} (ht : t < 12) (l1 : len ≤ 24) (l3 : M.1 7 = iI (len : Nat)) (l5 : 0 < len) (ok : ∀ j, j ≤ len → okS (stT (M.2.1 6) j)) (h0 : Hv M 4 0) (hN : 1000 ≤ N) : ∃ M', b_X12_read_52 N (ov mb M ρ) mb (iI (t : Nat)) 0 0 1 0 0 = (b2 (mL mb M' ρ t (chk (sgn (tN (M.2.1 6) len) (tU (M.2.1 6) len)) (tZ (M.2.1 6) len))) fun x τ => if x = 0 then b_X12_read_231 N τ mb (iI (t : Nat)) 3 mb else b_X12_read_231 N τ mb (iI (t : Nat)) 0 mb) ∧ Sc M M' := by
  obtain ⟨f, hf⟩ : ∃ f, f = M.2.1 6 := ⟨_, rfl⟩
  rw [← hf] at ok ⊢
  unfold b_X12_read_52
  refine lp_ex (n := len) (Inv := fun k a => ∃ M', a = (ov mb M' ρ, mb, iI (t : Nat), iI (tS f k : Nat), iI (tE f k : Nat), (if tX f k = true then (-1 : Int32) else 1), stT f k, iI (k : Nat)) ∧ Sc M M' ∧ Hv M' 4 (tU f k)) (Post := fun r => ∃ M', r = (b2 (mL mb M' ρ t (chk (sgn (tN f len) (tU f len)) (tZ f len))) fun x τ => if x = 0 then b_X12_read_231 N τ mb (iI (t : Nat)) 3 mb else b_X12_read_231 N τ mb (iI (t : Nat)) 0 mb) ∧ Sc M M') (fun k a hk hI => ?_) (fun a hI KK => ?_) N 0 _ (Nat.zero_le _) (by omega) ⟨M, rfl, Sc.rf, h0⟩
  · obtain ⟨M', rfl, hs, hv⟩ := hI
    have l3' : M'.1 7 = iI (len : Nat) := by rw [hs.1 7 (by decide)]; exact l3
    have f6 : M'.2.1 6 = f := by rw [hs.2.1 6 (by decide) (by decide)]; exact hf.symm
    obtain ⟨n1, n2, n3, n4, n5, n6, n7, n8⟩ := nx_all (ok k (by omega)) (f k)
    have ok1 := ok (k + 1) (by omega)
    rw [← stT_s] at n1 n3 n4 n5 n6 n7 n8
    have hU := tU_s (f := f) (k := k)
    have hS := tS_s (f := f) (k := k)
    have hE := tE_s (f := f) (k := k)
    have hX := tX_s (f := f) (k := k)
    have X7 : stT f (k + 1) = 7 → tX f k = false := tX_7 ok hk
    have dig := st_dig ok hk
    have k24 : inB (iI (k : Nat)) 24 = true := inN (by omega) (by decide)
    have c24 : (iI (k : Nat)).toNatClampNeg = k := clN (by omega)
    have head : ∀ KK : Sto × Nat × Int32 × Int32 × Int32 × Int32 × Int32 × Int32 → Option (Int32 × Sto), b_X12_read_52_body N KK (ov mb M' ρ) mb (iI (t : Nat)) (iI (tS f k : Nat)) (iI (tE f k : Nat)) (if tX f k = true then (-1 : Int32) else 1) (stT f k) (iI (k : Nat)) = if stT f (k + 1) = 2 then b_X12_read_88 N KK (ov mb M' ρ) mb (iI (t : Nat)) (iI (tS f k : Nat)) (iI (tE f k : Nat)) (if tX f k = true then (-1 : Int32) else 1) (stT f (k + 1)) (iI (k : Nat)) else if stT f (k + 1) = 6 then b_X12_read_88 N KK (ov mb M' ρ) mb (iI (t : Nat)) (iI (tS f k : Nat)) (iI (tE f k : Nat)) (if tX f k = true then (-1 : Int32) else 1) (stT f (k + 1)) (iI (k : Nat)) else b_X12_read_143 N KK (ov mb M' ρ) mb (iI (t : Nat)) (iI (tS f k : Nat)) (iI (tE f k : Nat)) (if tX f k = true then (-1 : Int32) else 1) (stT f (k + 1)) (iI (k : Nat)) := by
      intro KK
      unfold b_X12_read_52_body
      rw [oI_7, Option.bind_some, l3', if_neg (fun w => by rw [jI_le (by omega) (by omega)] at w; omega), oR_6, Option.bind_some, oA_6, k24, if_pos rfl, c24, Option.bind_some, f6, n1, Option.bind_some]
    obtain ⟨y, hy⟩ : ∃ y, y = stT f (k + 1) := ⟨_, rfl⟩
    have d88 : (y = 2 ∨ y = 6) → ∃ M2, Sc M M2 ∧ Hv M2 4 (tU f (k + 1)) ∧ ∀ KK : Sto × Nat × Int32 × Int32 × Int32 × Int32 × Int32 × Int32 → Option (Int32 × Sto), b_X12_read_88 N KK (ov mb M' ρ) mb (iI (t : Nat)) (iI (tS f k : Nat)) (iI (tE f k : Nat)) (if tX f k = true then (-1 : Int32) else 1) y (iI (k : Nat)) = b_X12_read_143 N KK (ov mb M2 ρ) mb (iI (t : Nat)) (iI (tS f (k + 1) : Nat)) (iI (tE f k : Nat)) (if tX f k = true then (-1 : Int32) else 1) y (iI (k : Nat)) := by
      intro h
      rw [← hy] at dig hU hS
      obtain ⟨d1, d2, d3, d4⟩ := dig (by rcases h with h | h; exact Or.inl h; exact Or.inr (Or.inl h))
      rw [if_pos h] at hU
      have uk := tU_lt ok (show k ≤ len by omega)
      have nk : nd (tU f k) ≤ 24 := Nat.le_trans (nd_le.mp uk) (by omega)
      obtain ⟨M3, r1, r2, r3⟩ := m_shifts (mb := mb) (σ := ρ) (z := 1) (N := N) (show 4 < 10 by decide) ⟨by decide, by decide⟩ hv (Or.inr (by show nd (tU f k) + 1 ≤ 240; omega)) (by omega)
      obtain ⟨M4, s1, s2, s3⟩ := m_lets (mb := mb) (M := M3) (σ := ρ) (r := 5) (z := (dv (f k) : Nat)) (N := N) (by decide) ⟨by omega, by omega⟩ (by omega)
      have r3' : Hv M3 4 (tU f k * 10) := r3
      have h4 : Hv M4 4 (tU f k * 10) := s2.Hv (by decide) r3'
      have s3' : Hv M4 5 (dv (f k)) := s3
      have n10 : nd (tU f k * 10) ≤ 239 := by
        have := nd_mul (tU f k) 10
        have e : nd 10 = 2 := nd_eq (by decide) (Or.inr (by decide))
        omega
      have ndv : nd (dv (f k)) ≤ 239 := by
        have : nd (dv (f k)) ≤ 1 := nd_le.mp (by omega)
        omega
      obtain ⟨M5, q1, q2, q3⟩ := m_plus (mb := mb) (σ := ρ) (N := N) (show 4 < 10 by decide) (show 5 < 10 by decide) (by decide) h4 s3' n10 ndv (by omega)
      rw [← hU] at q3
      refine ⟨M5, hs.tr (r2.sc.tr (s2.sc.tr q2.sc)), q3, fun KK => ?_⟩
      have f63 : M3.2.1 6 = f := by rw [r2.sc.2.1 6 (by decide) (by decide)]; exact f6
      have n46 : ¬ f k = 46 := fun w => by
        rw [d2, iI_lit 46, jI_eq (by omega) (by decide)] at w
        omega
      have n46' : f k = 46 → False := n46
      unfold b_X12_read_88
      rw [oR_6, Option.bind_some, oA_6, k24, if_pos rfl, c24, Option.bind_some, f6]
      by_cases hp : f k = 46
      · exact absurd hp n46
      rw [if_neg hp, ov_isO, Option.bind_some, show (4 : Int32) = iI (4 : Nat) from rfl, show (1 : Int32) = iI 1 from rfl, r1]
      dsimp only [b2, Option.bind_some]
      rw [oR_6, Option.bind_some, oA_6, k24, if_pos rfl, c24, Option.bind_some, f63, ov_isO, Option.bind_some, d3, iI_iL ⟨by omega, by omega⟩, show (5 : Int32) = iI (5 : Nat) from rfl, s1]
      dsimp only [Option.bind_some]
      rw [ov_isO, Option.bind_some, q1]
      dsimp only [Option.bind_some]
      rcases h with h | h
      · have h6 : ¬ y = 6 := by rw [h]; decide
        rw [hS, if_neg h6, if_neg h6]
        unfold b_X12_read_141
        dsimp only [lt_]
        rw [iI_lit 0, jI_add, Nat.add_zero]
      · rw [hS, if_pos h, if_pos h]
        unfold b_X12_read_141
        dsimp only [lt_]
        rw [show (iI 1) = (1 : Int32) from rfl, jI_s]
    have d143 : ∀ (M2 : MS) (s : Nat), M2.2.1 6 = f → ∀ KK : Sto × Nat × Int32 × Int32 × Int32 × Int32 × Int32 × Int32 → Option (Int32 × Sto), b_X12_read_143 N KK (ov mb M2 ρ) mb (iI (t : Nat)) (iI (s : Nat)) (iI (tE f k : Nat)) (if tX f k = true then (-1 : Int32) else 1) y (iI (k : Nat)) = KK (ov mb M2 ρ, mb, iI (t : Nat), iI (s : Nat), iI (tE f (k + 1) : Nat), (if tX f (k + 1) = true then (-1 : Int32) else 1), y, iI ((k + 1 : Nat) : Int)) := by
      intro M2 s hM2 KK
      rw [← hy] at dig hE hX X7 ok1
      have h166 : ∀ e : Int32, b_X12_read_166 N KK (ov mb M2 ρ) mb (iI (t : Nat)) (iI (s : Nat)) e (if tX f k = true then (-1 : Int32) else 1) y (iI (k : Nat)) = KK (ov mb M2 ρ, mb, iI (t : Nat), iI (s : Nat), e, (if tX f (k + 1) = true then (-1 : Int32) else 1), y, iI ((k + 1 : Nat) : Int)) := by
        intro e
        unfold b_X12_read_166 b_X12_read_188
        dsimp only [lt_]
        rw [jI_s]
        by_cases h7 : y = 7
        · rw [if_pos h7, oR_6, Option.bind_some, oA_6, k24, if_pos rfl, c24, Option.bind_some, hM2, hX, if_pos h7, X7 h7]
          by_cases h45 : f k = 45
          · rw [if_pos h45, decide_eq_true h45, if_pos rfl]
          · rw [if_neg h45, decide_eq_false h45]
        · rw [if_neg h7, hX, if_neg h7]
      unfold b_X12_read_143
      by_cases h8 : y = 8 ∨ y = 9 ∨ y = 10
      · obtain ⟨d1, d2, d3, d4⟩ := dig (Or.inr (Or.inr h8))
        rw [if_pos h8] at hE
        have ex : iI 10 * iI (tE f k : Nat) + f k - 48 = iI (tE f (k + 1) : Nat) := by
          rw [hE]
          revert d2
          generalize dv (f k) = d
          intro d2
          rw [d2, show (iI 10) = iI (10 : Nat) from rfl, jI_mul, jI_add, iI_lit 48, jI_sub (by omega)]
          exact congrArg (fun z : Nat => iI (z : Int)) (by omega)
        rw [if_neg (by rcases h8 with h | h | h <;> rw [h] <;> decide), oR_6, Option.bind_some, oA_6, k24, if_pos rfl, c24, Option.bind_some, hM2]
        dsimp only [lt_]
        rw [show (10 : Int32) = iI 10 from rfl, ex]
        exact h166 _
      · rw [if_neg h8] at hE
        rw [if_pos, hE]
        · exact h166 _
        · rcases ok1 with h | h | h | h | h | h | h | h | h | h | h
          all_goals first | (rw [h]; decide) | exact absurd (Or.inl h) h8 | exact absurd (Or.inr (Or.inl h)) h8 | exact absurd (Or.inr (Or.inr h)) h8
    rw [← hy] at head
    by_cases h26 : y = 2 ∨ y = 6
    · obtain ⟨M2, p1, p2, p3⟩ := d88 h26
      have f62 : M2.2.1 6 = f := by rw [p1.2.1 6 (by decide) (by decide)]; exact hf.symm
      refine ⟨(ov mb M2 ρ, mb, iI (t : Nat), iI (tS f (k + 1) : Nat), iI (tE f (k + 1) : Nat), (if tX f (k + 1) = true then (-1 : Int32) else 1), stT f (k + 1), iI ((k + 1 : Nat) : Int)), ⟨M2, rfl, p1, p2⟩, fun KK => ?_⟩
      dsimp only
      rw [head KK, ← hy]
      have e2 := (p3 KK).trans (d143 M2 _ f62 KK)
      by_cases h2 : y = 2
      · rw [if_pos h2]; exact e2
      · rw [if_neg h2, if_pos (h26.resolve_left h2)]; exact e2
    · rw [← hy] at hU hS
      rw [if_neg h26] at hU
      rw [if_neg (fun w => h26 (Or.inr w))] at hS
      refine ⟨(ov mb M' ρ, mb, iI (t : Nat), iI (tS f (k + 1) : Nat), iI (tE f (k + 1) : Nat), (if tX f (k + 1) = true then (-1 : Int32) else 1), stT f (k + 1), iI ((k + 1 : Nat) : Int)), ⟨M', rfl, hs, by rw [hU]; exact hv⟩, fun KK => ?_⟩
      dsimp only
      rw [head KK, ← hy, if_neg (fun w => h26 (Or.inl w)), if_neg (fun w => h26 (Or.inr w)), hS]
      exact d143 M' _ f6 KK
  · obtain ⟨M', rfl, hs, hv⟩ := hI
    have l3' : M'.1 7 = iI (len : Nat) := by rw [hs.1 7 (by decide)]; exact l3
    have f6 : M'.2.1 6 = f := by rw [hs.2.1 6 (by decide) (by decide)]; exact hf.symm
    refine ⟨M', ?_, hs⟩
    have e1 := tS_le (f := f) (k := len)
    have e2 := tE_le ok (Nat.le_refl len)
    have nv : tN f len = decide (f 0 = 45) := by
      obtain ⟨m, rfl⟩ : ∃ m, len = m + 1 := ⟨len - 1, by omega⟩
      exact tN_v ok (Nat.lt_succ_self m)
    have sc : iI (tS f len : Nat) - (if tX f len = true then (-1 : Int32) else 1) * iI (tE f len : Nat) = iI (tZ f len) := by
      unfold tZ
      cases hx : tX f len with
      | false => rw [if_neg (by decide), if_neg (by decide), show (1 : Int32) = iI 1 from rfl, iI_mul, iI_sub]; exact congrArg iI (by omega)
      | true => rw [if_pos rfl, if_pos rfl, show (-1 : Int32) = iI (-1) from rfl, iI_mul, iI_sub]; exact congrArg iI (by omega)
    have zr : -2147483648 ≤ tZ f len ∧ tZ f len < 2147483648 := by unfold tZ; split <;> omega
    have fin : ∀ b : Bool, b_X12_read_214 N (ov mb M' ρ) mb (iI (t : Nat)) (iI (tS f len : Nat)) (iI (tE f len : Nat)) (if tX f len = true then (-1 : Int32) else 1) (bI b) 4 (iI (t : Nat)) mb mb = (b2 (mL mb M' ρ t (chk (sgn b (tU f len)) (tZ f len))) fun x τ => if x = 0 then b_X12_read_231 N τ mb (iI (t : Nat)) 3 mb else b_X12_read_231 N τ mb (iI (t : Nat)) 0 mb) := by
      intro b
      unfold b_X12_read_214
      rw [ov_isO, Option.bind_some, sc, show (4 : Int32) = iI (4 : Nat) from rfl, m_lays ht (by decide) hv zr (by omega)]
    dsimp only
    unfold b_X12_read_52_body
    rw [oI_7, Option.bind_some, l3', if_pos (Int32.le_refl _), oR_6, Option.bind_some, oA_6, show inB 0 24 = true by decide, if_pos rfl, show (0 : Int32).toNatClampNeg = 0 by decide, Option.bind_some, f6, nv]
    by_cases h : f 0 = 45
    · rw [if_pos h, decide_eq_true h]
      exact fin true
    · rw [if_neg h, decide_eq_false h]
      exact fin false
end RM
theorem p_read {xb mb ob N : Nat} (hN : 1000 ≤ N) : A_read (I0 xb mb ob) N xb mb ob := by
  intro v1
  refine ag_in (fun n σ sz ni A W K M hn hA ho hC hR hF => ?_)
  subst hA
  have bb2 : ∀ {α β γ : Type} (x : α) (y : β) (f : α → β → Option γ), b2 (some (x, y)) f = f x y := fun _ _ _ => rfl
  obtain ⟨k, k1, k2, rfl⟩ := iI_of v1
  have hk : -2147483648 ≤ k ∧ k < 2147483648 := ⟨k1, k2⟩
  have no : ∀ (ρ : Sto) (c : Nat) (v : Int32), c ≠ 0 → c < 100 → b_X12_read_24 N (ov mb M ρ) mb v (iI (c : Nat)) mb = some (0, ov mb (uI M 8 (iI (c : Nat))) ρ) := by
    intro ρ c v h1 h2
    unfold b_X12_read_24
    rw [ov_isO, Option.bind_some, m_fails h2, decide_eq_true (by omega)]
    rfl
  by_cases c1 : 0 ≤ k ∧ k ≤ 11
  case neg =>
    refine ag_no (k := 1) (y := sz) rfl ho hC hR ?_ (by decide) (by decide) (fun ρ => ⟨uI M 8 1, 0, ?_, Sd.u8, u8_v⟩)
    · simp only [f_L_read, f_X11_read, hC.xo, Option.bind_some, x_shN hk c1, bs, b3]
      rfl
    · unfold f_X12_read
      rw [m_shN hk c1, Option.bind_some, if_pos rfl]
      exact no ρ 1 _ (by decide) (by decide)
  obtain ⟨t, rfl⟩ : ∃ t : Nat, k = t := ⟨k.toNat, by omega⟩
  have ht : t < 12 := by omega
  obtain ⟨r, len, f1, f2, f3, f4, f5, f6, f7, f8⟩ := fault_both (mb := mb) (σ := σ) (ρ := σ) (N := N) hC.1 hR.2.1 (by omega)
  have mf : ∀ ρ, f_X12_faultOf N (ov mb M ρ) mb = some (iI r) := fun ρ => by
    obtain ⟨r', len', -, -, g1, g2, -⟩ := fault_both (mb := mb) (σ := σ) (ρ := ρ) (N := N) hC.1 hR.2.1 (by omega)
    rw [f3] at g1
    rw [g2, Option.some.inj g1]
  have pre : ∀ (σ' : Sto) (K' : KS), Cf mb ni A W K' M σ' → f_X9_firstFault N σ' (A 2 0) = some (iI r) → r ≠ -1 → f_X11_read N σ' sz (A 0 0) (iI (t : Nat)) = some (.inl 1, σ', sz) := by
    intro σ' K' h1 h2 h3
    have g := xR_0_1 (K := K') (σ := σ') h1.1
    have o := xO_2 (K := K') (σ := σ') h1.1
    rw [h1.eqk] at g o
    unfold f_X11_read
    rw [x_shelfOk ht, Option.bind_some]
    dsimp only [bs]
    rw [g, Option.bind_some, o, Option.bind_some, h2, Option.bind_some, if_neg (fun w => h3 (by
      rw [show (-1 : Int32) = iI (-1) from rfl, iI_eq ⟨by omega, by omega⟩ ⟨by decide, by decide⟩] at w
      exact w))]
  have f3' := f3
  rw [hC.eqk] at f3'
  by_cases hr : r = -1
  case neg =>
    refine ag_no (k := 2) (y := sz) rfl ho hC hR ?_ (by decide) (by decide) (fun ρ => ⟨uI M 8 2, 0, ?_, Sd.u8, u8_v⟩)
    · simp only [f_L_read, hC.xo, Option.bind_some, pre σ K hC f3' hr, b3, bs]
      rfl
    · unfold f_X12_read
      rw [m_shY ht, Option.bind_some, if_neg (by decide), ov_isO, Option.bind_some, mf, Option.bind_some, if_neg (fun w => by rw [iI_lit 0, iI_lt ⟨by omega, by omega⟩ ⟨by decide, by decide⟩] at w; omega)]
      exact no ρ 2 _ (by decide) (by decide)
  have ok := f7 hr
  have hlen : 0 < len := by
    cases len with
    | zero => exact absurd (Or.inl rfl) (f8 hr)
    | succ m => omega
  obtain ⟨z1, ⟨len2, l1, l2, l3, l4⟩, z2⟩ := id hR
  have el : len2 = len := by
    rw [f2] at l3
    exact ((jI_eq (by omega) (by omega)).mp l3).symm
  subst el
  obtain ⟨f, hf⟩ : ∃ f, f = M.2.1 6 := ⟨_, rfl⟩
  rw [← hf] at ok l4
  obtain ⟨R, hRR⟩ : ∃ R, R = chk (sgn (tN f len2) (tU f len2)) (tZ f len2) := ⟨_, rfl⟩
  have xv := x_textValue (σ := σ) (sz := sz) (N := N) hC.1 l1 l2 l4 ok (by omega)
  rw [hC.eqk, ← hRR] at xv
  have hvo : VO R σ sz (vQ R σ sz) := VO.vQ (fun _ _ => rfl) (Nat.le_refl _)
  have xrun : f_X11_read N σ sz (A 0 0) (iI (t : Nat)) = b3 (vQ R σ sz) fun u τ y => bs u (fun j => some (.inl j, τ, y)) fun p => (gR τ (A 0 0) 10 0).bind fun q => (sQ τ q 4 (iI (t : Nat)) p).bind fun τ' => (gR τ' (A 0 0) 10 1).bind fun p17 => (isO τ' p17 8).bind fun _ => b2 (f_X9_empty τ' p17) fun _ τ20 => (gI τ20 p 9 1).bind fun x => some (.inr x, τ20, y) := by
    have g := xR_0_1 (K := K) (σ := σ) hC.1
    have o := xO_2 (K := K) (σ := σ) hC.1
    rw [hC.eqk] at g o
    unfold f_X11_read
    rw [x_shelfOk ht, Option.bind_some]
    dsimp only [bs]
    rw [g, Option.bind_some, o, Option.bind_some, f3', Option.bind_some, hr, if_pos (show iI (-1) = -1 from rfl), Option.bind_some, o, Option.bind_some, xv]
  -- the reference
  obtain ⟨M0, hM0⟩ : ∃ M0, M0 = uA (uI M 8 0) 1 4 0 := ⟨_, rfl⟩
  have s0 : Sd M M0 := by
    rw [hM0]
    exact Sd.u8.tr (Sf.many (M := uI M 8 0) (r := 4) (v := 0)).sc.sd
  have hv0 : Hv M0 4 0 := by
    refine ⟨?_, ?_, fun k hk => ?_⟩
    · rw [hM0, uA_same, nd_0]; rfl
    · rw [nd_0]; decide
    · rw [nd_0] at hk; omega
  have f60 : M0.2.1 6 = f := by rw [s0.2.1 6 (by decide) (by decide)]; exact hf.symm
  have l30 : M0.1 7 = iI (len2 : Nat) := by rw [s0.1 7 (by decide) (by decide)]; exact l3
  have mrun : ∀ ρ, ∃ M1, f_X12_read N (ov mb M ρ) mb (iI (t : Nat)) = (b2 (mL mb M1 ρ t R) fun x τ => if x = 0 then b_X12_read_231 N τ mb (iI (t : Nat)) 3 mb else b_X12_read_231 N τ mb (iI (t : Nat)) 0 mb) ∧ Sd M M1 := by
    intro ρ
    obtain ⟨M1, q1, q2⟩ := m_read_loop (mb := mb) (ρ := ρ) (N := N) ht l1 l30 hlen (by rw [f60]; exact ok) hv0 hN
    rw [f60, ← hRR] at q1
    refine ⟨M1, ?_, s0.tr q2.sd⟩
    unfold f_X12_read
    rw [m_shY ht, Option.bind_some, if_neg (by decide), ov_isO, Option.bind_some, mf, Option.bind_some, hr, if_pos (by decide)]
    unfold b_X12_read_24
    rw [ov_isO, Option.bind_some, ff0, bb2, if_pos rfl, oR_1, Option.bind_some, oS_1, show inB 4 10 = true by decide, if_pos rfl, show (4 : Int32).toNatClampNeg = 4 by decide, Option.bind_some, ← hM0]
    exact q1
  cases hq : R with
  | none =>
    refine ag_ex (k := 3) (y := sz) (τ := σ) rfl ho ?_ hC (by decide) (by decide) (fun ρ => ?_)
    · rw [hq] at xrun
      simp only [f_L_read, hC.xo, Option.bind_some, xrun, b3, vQ, bs]
      rfl
    · obtain ⟨M1, q1, q2⟩ := mrun ρ
      rw [hq] at q1
      refine ⟨uI M1 8 3, 0, ?_, u8_v, ((hR.sd q2).sd Sd.u8).up⟩
      rw [q1]
      show b2 (some (0, ov mb M1 ρ)) _ = _
      rw [bb2, if_pos rfl]
      unfold b_X12_read_231
      rw [ov_isO, Option.bind_some, ff3, bb2, if_neg (by decide)]
  | some us =>
    obtain ⟨u, s⟩ := us
    have hg : RgV u s ∧ u = _ ∧ s = _ := chk_rg (hRR.symm.trans hq)
    rw [hq] at hvo xrun
    obtain ⟨τ, y, v1', v2', v3'⟩ := vo_cf hC hF hR hvo
    rcases v3' with ⟨w, -⟩ | ⟨u2, s2, p, w1, w2, w3⟩
    · cases w
    have e1 : u = u2 := congrArg Prod.fst (Option.some.inj w1)
    have e2 : s = s2 := congrArg Prod.snd (Option.some.inj w1)
    subst e1
    subst e2
    obtain ⟨b1, K', τ', b2', b3', b4, b5⟩ := val_set v1' w3 hg.1 ht v2'
    have g17 := xR_0_1 (K := K') (σ := τ') b3'.1
    have o17 := xO_2 (K := K') (σ := τ') b3'.1
    have i21 := xI_2_1 (K := K') (σ := τ') b3'.1
    have p21 := xP_2_1 (K := K') (σ := τ') (v := 0) b3'.1
    rw [b3'.eqk] at g17 o17 i21 p21
    have b6 := b3'.cls (K' := kI K' 2 0 1 0)
    have b7 : Val (ovk A W (kI K' 2 0 1 0) τ') p u s := b3'.vcls b4
    have key : f_X11_read N σ sz (A 0 0) (iI (t : Nat)) = some (.inr (iI s), ovk A W (kI K' 2 0 1 0) τ', y) := by
      rw [xrun, w2]
      show (gR τ (A 0 0) 10 0).bind _ = _
      rw [b1, Option.bind_some, b2', Option.bind_some, g17, Option.bind_some, o17, Option.bind_some]
      unfold f_X9_empty
      rw [i21, Option.bind_some, p21, Option.bind_some, bb2, b7.s, Option.bind_some]
    refine ag_ok (v := (iI s).toInt64) (y := y) rfl ho ?_ b6 (fun ρ => ?_)
    · simp only [f_L_read, hC.xo, Option.bind_some, key, b3, bs]
    · obtain ⟨M1, q1, q2⟩ := mrun ρ
      rw [hq] at q1
      obtain ⟨M2, hM2⟩ : ∃ M2, M2 = uI (lay M1 t u s) 8 0 := ⟨_, rfl⟩
      have s2 : Sd (lay M t u s) M2 := by rw [hM2]; exact (lay_sd q2).tr Sd.u8
      have h4 : (uI M2 7 0).2.1 4 t = iI s := by
        rw [hM2, uI_o, uI_o, lay_a, if_neg (by omega), if_pos ⟨rfl, rfl⟩]
      refine ⟨uI M2 7 0, iI s, ?_, ?_, rfl, ?_⟩
      · rw [q1]
        show b2 (some (1, ov mb (lay M1 t u s) ρ)) _ = _
        rw [bb2, if_neg (by decide)]
        unfold b_X12_read_231
        rw [ov_isO, Option.bind_some, ff0, bb2, if_pos rfl, ← hM2, oP_7, Option.bind_some, oR_4, Option.bind_some, oA_4, in12 ht, if_pos rfl, cl12 ht, Option.bind_some, h4]
      · rw [uI_v, if_neg (by decide), hM2]; exact u8_v
      · obtain ⟨y1, y2, y3⟩ := ((b5 M2 s2).up).vk (fun p u s h => b3'.vcls (K' := kI K' 2 0 1 0) h)
        exact ⟨y1, ⟨0, by decide, rfl, rfl, fun i hi => absurd hi (by omega)⟩, y3⟩
