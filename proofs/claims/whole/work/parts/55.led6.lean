/-! ===== invoices told by number; isBooked; isSound ===== -/
section LW
variable {mb ni c a n N : Nat} {sh : Int} {S : Nat → Nat} {A : AM} {W : WM} {K : KS} {M : MS} {σ : Sto}
theorem iv_cases (hC : Cf mb ni A W K M σ) (hN : RN ni A K M) {v : Int32} : (f_X11_invoiceAt σ (A 0 0) v = some (.inl 0) ∧ ∀ ρ, f_X12_isInvoice (ov mb M ρ) mb v = some 0) ∨ ∃ i : Nat, v = iI (i : Nat) ∧ i < ni ∧ f_X11_invoiceAt σ (A 0 0) v = some (.inr (A 29 i)) ∧ ∀ ρ, f_X12_isInvoice (ov mb M ρ) mb v = some 1 := by
  obtain ⟨n1, n2, n3, n4, n5⟩ := hN
  rcases pl_cases (v := v) ni (by omega) with ⟨k, rfl, hk, m1, l0, ln⟩ | ⟨m1, hv⟩
  · refine Or.inr ⟨k, rfl, hk, ?_, fun ρ => ?_⟩
    · have key : f_X11_invoiceAt (ovk A W K σ) (A 0 0) (iI (k : Nat)) = some (.inr (A 29 k)) := by
        unfold f_X11_invoiceAt
        rw [if_neg l0, xI_0_7 hC.1, Option.bind_some, n2, if_pos ln, xR_0_6 hC.1, Option.bind_some, xA_8 hC.1, inN (show k < 20 by omega) (by decide), if_pos rfl, clN (by omega), Option.bind_some, show rk A (K.2.2.1 8) 8 k = some (A 29 k) from (n5 k hk).1, Option.bind_some]
      rw [hC.eqk] at key
      exact key
    · unfold f_X12_isInvoice
      rw [oI_29, Option.bind_some, n3, m1, Option.bind_some]
      rfl
  · refine Or.inl ⟨?_, fun ρ => ?_⟩
    · have key : f_X11_invoiceAt (ovk A W K σ) (A 0 0) v = some (.inl 0) := by
        unfold f_X11_invoiceAt
        rcases hv with h | ⟨h, h'⟩
        · rw [if_pos h]
        · rw [if_neg h, xI_0_7 hC.1, Option.bind_some, n2, if_neg h']
      rw [hC.eqk] at key
      exact key
    · unfold f_X12_isInvoice
      rw [oI_29, Option.bind_some, n3, m1, Option.bind_some]
      rfl
theorem x_has (hC : Cf mb ni A W K M σ) (hL : LE ni c a sh S K M) {i : Nat} (hi : i < 20) (hN : 300 ≤ N) : f_X3_hasBooking N σ (A 17 0) (iI (i : Nat)) = some (M.2.1 26 i) := by
  obtain ⟨l1, l2, l3, l4, ⟨q1, q2, q3, q4, q5, q6⟩, l5, l6, l7, l8, l9, l10⟩ := hL
  obtain ⟨f1, f2⟩ := l9 i hi
  have step : ∀ r N j, j + r = a → r < N → (∀ j', j' < j → M.2.1 50 j' ≠ iI (i : Nat)) → lp (fun k e => b_X3_hasBooking_2_body N k e.1 e.2.1 e.2.2.1 e.2.2.2) N (ovk A W K σ, A 17 0, iI (i : Nat), iI (j : Nat)) = some (M.2.1 26 i) := by
    have step' : ∀ r N0 N j, j + r = a → r < N → (∀ j', j' < j → M.2.1 50 j' ≠ iI (i : Nat)) → lp (fun k e => b_X3_hasBooking_2_body N0 k e.1 e.2.1 e.2.2.1 e.2.2.2) N (ovk A W K σ, A 17 0, iI (i : Nat), iI (j : Nat)) = some (M.2.1 26 i) := by
      intro r
      induction r with
      | zero =>
        intro N0 N j h1 h2 h3
        obtain ⟨N, rfl⟩ : ∃ N', N = N' + 1 := ⟨N - 1, by omega⟩
        rw [lp_s]
        dsimp only
        unfold b_X3_hasBooking_2_body
        rw [xI_17_8 hC.1, Option.bind_some, q3, if_pos (by rw [jI_le (by omega) (by omega)]; omega)]
        rcases f1 with f1 | f1
        · rw [f1]
        · obtain ⟨j', g1, g2⟩ := f2.mp f1
          exact absurd g2 (h3 j' (by omega))
      | succ r ih =>
        intro N0 N j h1 h2 h3
        obtain ⟨N, rfl⟩ : ∃ N', N = N' + 1 := ⟨N - 1, by omega⟩
        rw [lp_s]
        dsimp only
        unfold b_X3_hasBooking_2_body
        obtain ⟨⟨d, b, g1, g2, g3, g4, g5, g6, g7⟩, -⟩ := l6 j (by omega)
        have e : K.1 23 0 j = M.2.1 50 j := by rw [g6, g7]
        rw [xI_17_8 hC.1, Option.bind_some, q3, if_neg (fun w => by rw [jI_le (by omega) (by omega)] at w; omega), xR_17_6 hC.1, Option.bind_some, xA_23 hC.1, inN (show j < 220 by omega) (by decide), if_pos rfl, clN (by omega), Option.bind_some, e]
        by_cases h : M.2.1 50 j = iI (i : Nat)
        · rw [if_pos h, f2.mpr ⟨j, by omega, h⟩]
        · rw [if_neg h]
          dsimp only [lt_]
          rw [jI_s]
          refine ih N0 N (j + 1) (by omega) (by omega) (fun j' hj => ?_)
          by_cases e : j' = j
          · rw [e]; exact h
          · exact h3 j' (by omega)
    exact fun r N j => step' r N N j
  have key : f_X3_hasBooking N (ovk A W K σ) (A 17 0) (iI (i : Nat)) = some (M.2.1 26 i) := by
    unfold f_X3_hasBooking b_X3_hasBooking_2
    exact step a N 0 (by omega) (by omega) (fun j' h => by omega)
  rw [hC.eqk] at key
  exact key
end LW
theorem p_isBooked {xb mb ob N : Nat} (hN : 1000 ≤ N) : A_isBooked (I0 xb mb ob) N xb mb ob := by
  intro v
  refine ag_in (fun n σ sz ni A W K M hn hA ho hC hR hF => ?_)
  subst hA
  have bb2 : ∀ {α β γ : Type} (x : α) (y : β) (f : α → β → Option γ), b2 (some (x, y)) f = f x y := fun _ _ _ => rfl
  obtain ⟨c, a, sh, S, hL, hle⟩ := hR.2.2.2.2.2.2.2.2
  have hni := hR.2.2.2.2.2.1.1
  rcases iv_cases hC hR.2.2.2.2.2.1 (v := v) with ⟨h1, h2⟩ | ⟨i, rfl, hi, h1, h2⟩
  · refine ag_no (k := 1) (y := sz) rfl ho hC hR ?_ (by decide) (by decide) (fun ρ => ⟨uI M 8 1, 0, ?_, Sd.u8, u8_v⟩)
    · simp only [f_L_isBooked, f_X11_isBooked, hC.xo, Option.bind_some, h1, bs]
      rfl
    · unfold f_X12_isBooked
      rw [ov_isO, Option.bind_some, h2, Option.bind_some, if_pos rfl]
      unfold b_X12_isBooked_14
      rw [ov_isO, Option.bind_some, ff1, bb2, if_neg (by decide)]
  · have hb := x_has hC hL (i := i) (N := N) (by omega) (by omega)
    have hl9 := hL.2.2.2.2.2.2.2.2.2.1 i (by omega)
    have hz : okZ (M.2.1 26 i) = true := by rcases hl9.1 with h | h <;> rw [h] <;> decide
    have r10 : gR σ (A 0 0) 10 10 = some (A 17 0) := by
      have := xR_0_10 (K := K) (σ := σ) hC.1
      rw [hC.eqk] at this
      exact this
    have o17 : isO σ (A 17 0) 3 = some () := by
      have := xO_17 (K := K) (σ := σ) hC.1
      rw [hC.eqk] at this
      exact this
    have key : f_X11_isBooked N σ (A 0 0) (iI (i : Nat)) = some (.inr (M.2.1 26 i)) := by
      unfold f_X11_isBooked
      rw [hC.xo, Option.bind_some, h1, Option.bind_some]
      dsimp only [bs]
      rw [r10, Option.bind_some, o17, Option.bind_some, hb, Option.bind_some, if_pos hz]
    have i20 : inB (iI (i : Nat)) 20 = true := inN (by omega) (by decide)
    have k20 : (iI (i : Nat)).toNatClampNeg = i := clN (by omega)
    have hM : ∀ ρ, f_X12_isBooked (ov mb M ρ) mb (iI (i : Nat)) = some (if M.2.1 26 i = 0 then 0 else 1, ov mb (uI M 8 0) ρ) := by
      intro ρ
      unfold f_X12_isBooked
      rw [ov_isO, Option.bind_some, h2, Option.bind_some, if_neg (by decide)]
      unfold b_X12_isBooked_14
      have e : (uI M 8 0).2.1 26 i = M.2.1 26 i := rfl
      rw [ov_isO, Option.bind_some, ff0, bb2, if_pos rfl, oR_26, Option.bind_some, oA_26, i20, if_pos rfl, k20, Option.bind_some, e]
      by_cases h : M.2.1 26 i = 0
      · rw [if_pos h, if_pos h]
      · rw [if_neg h, if_neg h]
    refine ag_ok (v := if M.2.1 26 i = 0 then 0 else 1) (y := sz) rfl ho ?_ hC (fun ρ => ⟨uI M 8 0, if M.2.1 26 i = 0 then 0 else 1, hM ρ, u8_v, ?_, (hR.sd Sd.u8).up⟩)
    rotate_left
    · by_cases h : M.2.1 26 i = 0
      · rw [if_pos h, if_pos h]; rfl
      · rw [if_neg h, if_neg h]; rfl
    · unfold f_L_isBooked
      rw [hC.xo, Option.bind_some, key, Option.bind_some]
      dsimp only [bs]
      by_cases h : M.2.1 26 i = 0
      · rw [if_pos h, if_pos h]
      · rw [if_neg h, if_neg h]
theorem p_isSound {xb mb ob N : Nat} (hN : 1000 ≤ N) : A_isSound (I0 xb mb ob) N xb mb ob := by
  refine agr_in (fun n σ sz ni A W K M hn hA ho hC hR hF => ?_)
  subst hA
  refine ⟨1, uI M 8 0, ?_, fun ρ => ?_, Sd.u8⟩
  · obtain ⟨a1, a2, a3, a4, a5, a6, ⟨wc, pc, w1, w2, w3, w4, w5, w6, w7, w8, w9⟩, ⟨lc, o1, o2, o3, o4, o5, o6⟩, c, a, sh, S, hL, hle⟩ := hR
    obtain ⟨l1, l2, l3, l4, ⟨q1, q2, q3, q4, q5, q6⟩, l5, l6, l7, l8, l9, l10⟩ := hL
    have s1 := x_sum (σ := σ) (lo := 0) (hi := 99) (v3 := 1) (N := N) hC.1 q1 l1 (by omega)
    have s0 := x_sum (σ := σ) (lo := 0) (hi := 99) (v3 := 0) (N := N) hC.1 q1 l1 (by omega)
    rw [if_neg (by decide), sm_all (fun i hi => by obtain ⟨⟨x, y, d', g1, g2, g3, g4, g5, g6, g7, g8, g9⟩, -⟩ := l5 i hi; exact ⟨x, g1, g4⟩)] at s1
    rw [if_pos rfl, sm_all (fun i hi => by obtain ⟨⟨x, y, d', g1, g2, g3, g4, g5, g6, g7, g8, g9⟩, -⟩ := l5 i hi; exact ⟨y, g2, g6⟩)] at s0
    have t1 : f_X3_isEven N (ovk A W K σ) (A 17 0) = some 1 := by
      unfold f_X3_isEven
      rw [xO_17 hC.1, Option.bind_some, s1, Option.bind_some, s0, Option.bind_some, if_pos rfl]
    have t2 : f_X7_addsUp N (ovk A W K σ) (A 9 0) = some 1 := by
      unfold f_X7_addsUp b_X7_addsUp_4
      refine lp_for (n := pc) (st := fun k => (ovk A W K σ, A 9 0, sumL (K.2.1 11 0) k, iI (k : Nat))) (fun k hk KK => ?_) (fun KK => ?_) N 0 (Nat.zero_le _) (by omega)
      · dsimp only
        unfold b_X7_addsUp_4_body
        rw [xI_9_3 hC.1, Option.bind_some, w5, if_neg (fun w => by rw [jI_le (by omega) (by omega)] at w; omega), xR_9_2 hC.1, Option.bind_some, xA_11 hC.1, inN (show k < 12 by omega) (by decide), if_pos rfl, clN (by omega), Option.bind_some]
        dsimp only [lt_]
        rw [jI_s]
        rfl
      · dsimp only
        unfold b_X7_addsUp_4_body
        rw [xI_9_3 hC.1, Option.bind_some, w5, if_pos (by rw [jI_le (by omega) (by omega)]; omega), xI_9_5 hC.1, Option.bind_some, w9, if_pos rfl]
    have t3 : f_X4_comesToNothing N (ovk A W K σ) (A 13 0) = some 1 := by
      unfold f_X4_comesToNothing b_X4_comesToNothing_7
      rw [xI_13_4 hC.1, Option.bind_some]
      refine lp_for (n := lc) (st := fun k => (ovk A W K σ, A 13 0, owedB K k, iI (k : Nat))) (fun k hk KK => ?_) (fun KK => ?_) N 0 (Nat.zero_le _) (by omega)
      · dsimp only
        unfold b_X4_comesToNothing_7_body
        have i120 : inB (iI (k : Nat)) 120 = true := inN (by omega) (by decide)
        have k120 : (iI (k : Nat)).toNatClampNeg = k := clN (by omega)
        simp only [xI_13_3 hC.1, Option.bind_some, o2, xR_13_2 hC.1, xR_13_1 hC.1, xA_16 hC.1, xA_15 hC.1, i120, k120, if_true]
        rw [if_neg (fun w => by rw [jI_le (by omega) (by omega)] at w; omega), if_pos (o5 k hk)]
        dsimp only [lt_]
        rw [jI_s]
        rfl
      · dsimp only
        unfold b_X4_comesToNothing_7_body
        rw [xI_13_3 hC.1, Option.bind_some, o2, if_pos (by rw [jI_le (by omega) (by omega)]; omega), if_pos o6]
    have key : f_X11_isSound N (ovk A W K σ) (A 0 0) = some 1 := by
      unfold f_X11_isSound
      rw [xR_0_10 hC.1, Option.bind_some, xO_17 hC.1, Option.bind_some, t1, Option.bind_some, if_neg (by decide), xR_0_8 hC.1, Option.bind_some, xO_9 hC.1, Option.bind_some, t2, Option.bind_some, if_neg (by decide), xR_0_9 hC.1, Option.bind_some, xO_13 hC.1, Option.bind_some, t3, Option.bind_some, if_neg (by decide)]
    rw [hC.eqk] at key
    exact key
  · unfold f_X12_isSound
    rw [oP_8, Option.bind_some]
