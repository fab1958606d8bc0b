/-! ===== the law's loop ===== -/
def A_all (I : Nat → Sto → Prop) (N xb mb ob : Nat) : Prop := (∀ n σ, I n σ → I (n + 1) σ) ∧ A_put I N xb mb ob ∧ A_type I N xb mb ob ∧ A_fault I N xb mb ob ∧ A_read I N xb mb ob ∧ A_wipe I N xb mb ob ∧ A_unscaled I N xb mb ob ∧ A_scale I N xb mb ob ∧ A_precision I N xb mb ob ∧ A_join I N xb mb ob ∧ A_turn I N xb mb ob ∧ A_move I N xb mb ob ∧ A_setScale I N xb mb ob ∧ A_round I N xb mb ob ∧ A_divide I N xb mb ob ∧ A_divideExactly I N xb mb ob ∧ A_compare I N xb mb ob ∧ A_isEqual I N xb mb ob ∧ A_setCurrency I N xb mb ob ∧ A_setRate I N xb mb ob ∧ A_change I N xb mb ob ∧ A_lost I N xb mb ob ∧ A_setTax I N xb mb ob ∧ A_tax I N xb mb ob ∧ A_setDiscount I N xb mb ob ∧ A_open I N xb mb ob ∧ A_line I N xb mb ob ∧ A_netOfLine I N xb mb ob ∧ A_net I N xb mb ob ∧ A_taxOf I N xb mb ob ∧ A_cash I N xb mb ob ∧ A_weigh I N xb mb ob ∧ A_share I N xb mb ob ∧ A_part I N xb mb ob ∧ A_interest I N xb mb ob ∧ A_lend I N xb mb ob ∧ A_instalment I N xb mb ob ∧ A_post I N xb mb ob ∧ A_book I N xb mb ob ∧ A_isBooked I N xb mb ob ∧ A_side I N xb mb ob ∧ A_nextAccount I N xb mb ob ∧ A_shut I N xb mb ob ∧ A_undo I N xb mb ob ∧ A_isSound I N xb mb ob
theorem lp_i {n k L : Nat} (hL : L ≤ 3584) (h : 7 * n + k < L) : vp_in (Int32.ofNat (7 * n) + Int32.ofNat k) L := by
  have e : Int32.ofNat (7 * n) + Int32.ofNat k = Int32.ofNat (7 * n + k) := (Int32.ofNat_add _ _).symm
  rw [e]
  have h1 : (Int32.ofNat (7 * n + k)).toInt = ((7 * n + k : Nat) : Int) := nI_toInt (by omega)
  refine vp_in_iff.mpr ⟨by rw [h1]; omega, by rw [h1]; omega⟩
theorem lp_c {n L : Nat} (hL : L ≤ 3584) (hn : 7 * n ≤ 3600) : (Int32.ofNat L - 7 < Int32.ofNat (7 * n)) ↔ L < 7 * n + 7 := by
  have h1 : (Int32.ofNat (7 * n)).toInt = ((7 * n : Nat) : Int) := nI_toInt (by omega)
  have h2 : (Int32.ofNat L).toInt = ((L : Nat) : Int) := nI_toInt (by omega)
  have h3 : (Int32.ofNat L - 7).toInt = (L : Int) - 7 := by
    rw [Int32.toInt_sub, h2]
    show ((L : Int) - 7).bmod (2 ^ 32) = _
    rw [Int.bmod_eq_of_le] <;> omega
  rw [Int32.lt_iff_toInt_lt, h1, h3]
  omega
set_option maxHeartbeats 4000000 in
set_option maxRecDepth 100000 in
theorem law_loop {l : Launch} (hfl : l.stackTraces = false) {g : PP} {p : Program} {e : Env} {s : State} {m : MethodId} {args : Array Value} {below : List Frame} {meth : Method} {c : Code} {N : Nat} {I : Nat → Sto → Prop} {xs : Nat → Int32} {b L xb mb ob : Nat} (C : Cx g p s m meth c cL_law 8 "TillhouseLaw") (hX : va_X b L xs s s.heap) (hbl : b < s.heap.size) (hbA : ¬ Aw g b) (hL : L ≤ 3584) (AA : A_all I N xb mb ob) {C0 S0 : Nat} (hC0 : C0 + 2560 ≤ 603072) (hS0 : S0 + 1048576 ≤ 7211114) {Q : State → Prop}
    (kx : ∀ (σ : Sto) (sz : Nat) (H : Heap) (locs : List Loc) (ls : Array Slot), HS g s σ sz H locs → (∃ n, I n σ) → W p l e room_1 s m args below meth c H locs 603072 7211114 Q (F0 m 3554 ls [.int 1])) :
    ∀ (j n : Nat), n + j = L / 7 → ∀ (σ : Sto) (sz : Nat) (H : Heap) (locs : List Loc) (ls : Array Slot), HS g s σ sz H locs → I n σ → lv_has ls 8 [(4, .int (Int32.ofNat (7 * n))), (3, .ref ob), (2, .ref mb), (1, .ref xb), (0, .ref b)] → W p l e room_1 s m args below meth c H locs (C0 + 5 * n) (S0 + 2048 * n) Q (F0 m 23 ls []) := by
  intro j
  induction j with
  | zero =>
    intro n hn σ sz H locs ls hs hI hl
    refine lv_iload C.1 C.2.1 dL_law_23 (lv_at hl 0 rfl) ?_
    refine lv_aload_n C.1 C.2.1 dL_law_25 rfl (lv_at hl 4 rfl) ?_
    refine va_slen C.1 C.2.1 hX hbl hbA hs.2.2 dL_law_26 ?_
    refine lv_bipush (v := 7) C.1 C.2.1 dL_law_27 (by decide) ?_
    refine lv_isub C.1 C.2.1 dL_law_29 ?_
    refine lv_icmp_gt (tgt := 3553) C.1 C.2.1 dL_law_30 (by decide) (fun c1 => ?_) (fun c1 => ?_)
    · refine lv_iconst (v := 1) C.1 C.2.1 dL_law_3553 (by decide) ?_
      refine W.widen (k := 603072) (n := 7211114) (by omega) (by omega) ?_
      exact kx _ _ _ _ _ hs ⟨n, hI⟩
    · exact absurd ((lp_c hL (by omega)).mpr (by omega)) c1
  | succ j ih =>
    intro n hn σ sz H locs ls hs hI hl
    have hi0 : vp_in (Int32.ofNat (7 * n)) L := by
      have h := lp_i (n := n) (k := 0) hL (by omega)
      rwa [show Int32.ofNat (7 * n) + Int32.ofNat 0 = Int32.ofNat (7 * n) from Int32.add_zero _] at h
    have hi1 : vp_in (Int32.ofNat (7 * n) + 1) L := lp_i (k := 1) hL (by omega)
    have hi2 : vp_in (Int32.ofNat (7 * n) + 2) L := lp_i (k := 2) hL (by omega)
    have hi3 : vp_in (Int32.ofNat (7 * n) + 3) L := lp_i (k := 3) hL (by omega)
    have hi4 : vp_in (Int32.ofNat (7 * n) + 4) L := lp_i (k := 4) hL (by omega)
    have hi5 : vp_in (Int32.ofNat (7 * n) + 5) L := lp_i (k := 5) hL (by omega)
    have hi6 : vp_in (Int32.ofNat (7 * n) + 6) L := lp_i (k := 6) hL (by omega)
    have hnn : n < 512 := by omega
    have hc : (C0 + 5 * n) + 5 ≤ room_1.cells := by show _ ≤ 603072; omega
    have hS : (S0 + 2048 * n) + 2048 ≤ room_1.slots := by show _ ≤ 7211114; omega
    -- the next round
    have kk : ∀ (σ : Sto) (sz : Nat) (H : Heap) (locs : List Loc) (ls : Array Slot), HS g s σ sz H locs → I (n + 1) σ → lv_has ls 8 [(4, .int (Int32.ofNat (7 * n))), (3, .ref ob), (2, .ref mb), (1, .ref xb), (0, .ref b)] → W p l e room_1 s m args below meth c H locs (C0 + 5 * n + 5) (S0 + 2048 * n + 2048) Q (F0 m 3547 ls []) := by
      intro σ sz H locs ls hs hI hl
      refine lv_iinc (v := Int32.ofNat (7 * (n + 1))) (lv' := [(4, .int (Int32.ofNat (7 * (n + 1)))), (3, .ref ob), (2, .ref mb), (1, .ref xb), (0, .ref b)]) C.1 C.2.1 dL_law_3547 hl (k := 0) rfl (by rw [Nat.mul_add]; exact (Int32.ofNat_add _ _).symm) (by decide) rfl (fun ls hl => ?_)
      refine lv_goto (tgt := 23) C.1 C.2.1 dL_law_3550 (by decide) ?_
      exact ih (n + 1) (by omega) _ _ _ _ _ hs hI hl
    refine lv_iload C.1 C.2.1 dL_law_23 (lv_at hl 0 rfl) ?_
    refine lv_aload_n C.1 C.2.1 dL_law_25 rfl (lv_at hl 4 rfl) ?_
    refine va_slen C.1 C.2.1 hX hbl hbA hs.2.2 dL_law_26 ?_
    refine lv_bipush (v := 7) C.1 C.2.1 dL_law_27 (by decide) ?_
    refine lv_isub C.1 C.2.1 dL_law_29 ?_
    refine lv_icmp_gt (tgt := 3553) C.1 C.2.1 dL_law_30 (by decide) (fun c1 => ?_) (fun c1 => ?_)
    · exact absurd ((lp_c hL (by omega)).mp c1) (by omega)
    · refine lv_aload_n C.1 C.2.1 dL_law_33 rfl (lv_at hl 4 rfl) ?_
      refine lv_iload C.1 C.2.1 dL_law_34 (lv_at hl 0 rfl) ?_
      refine va_sld C.1 C.2.1 hX hbl hbA hs.2.2 hi0 dL_law_36 ?_
      refine lv_bipush (v := 63) C.1 C.2.1 dL_law_37 (by decide) ?_
      refine lv_iand C.1 C.2.1 dL_law_39 ?_
      generalize xs (Int32.ofNat (7 * n)).toNatClampNeg &&& 63 = w
      rcases Decidable.em (w = 0) with d0 | d0
      · refine sx_tblK (tgt := 232) (off := 192) 0 C dL_law_40 d0 (by decide) (by decide) ?_
        exact lc_put hfl hnn C hX hbl hbA hi0 hi1 hi2 hi3 hi4 hi5 hi6 (AA.2.1) hs hI hl hc hS kk
      rcases Decidable.em (w = 1) with d1 | d1
      · refine sx_tblK (tgt := 344) (off := 304) 1 C dL_law_40 d1 (by decide) (by decide) ?_
        exact lc_type hfl hnn C hX hbl hbA hi0 hi1 hi2 hi3 hi4 hi5 hi6 (AA.2.2.1) hs hI hl hc hS kk
      rcases Decidable.em (w = 2) with d2 | d2
      · refine sx_tblK (tgt := 402) (off := 362) 2 C dL_law_40 d2 (by decide) (by decide) ?_
        exact lc_fault hfl hnn C hX hbl hbA hi0 hi1 hi2 hi3 hi4 hi5 hi6 (AA.2.2.2.1) hs hI hl hc hS kk
      rcases Decidable.em (w = 3) with d3 | d3
      · refine sx_tblK (tgt := 415) (off := 375) 3 C dL_law_40 d3 (by decide) (by decide) ?_
        exact lc_read hfl hnn C hX hbl hbA hi0 hi1 hi2 hi3 hi4 hi5 hi6 (AA.2.2.2.2.1) hs hI hl hc hS kk
      rcases Decidable.em (w = 4) with d4 | d4
      · refine sx_tblK (tgt := 471) (off := 431) 4 C dL_law_40 d4 (by decide) (by decide) ?_
        exact lc_wipe hfl hnn C hX hbl hbA hi0 hi1 hi2 hi3 hi4 hi5 hi6 (AA.2.2.2.2.2.1) hs hI hl hc hS kk
      rcases Decidable.em (w = 5) with d5 | d5
      · refine sx_tblK (tgt := 484) (off := 444) 5 C dL_law_40 d5 (by decide) (by decide) ?_
        exact lc_unscaled hfl hnn C hX hbl hbA hi0 hi1 hi2 hi3 hi4 hi5 hi6 (AA.2.2.2.2.2.2.1) hs hI hl hc hS kk
      rcases Decidable.em (w = 6) with d6 | d6
      · refine sx_tblK (tgt := 539) (off := 499) 6 C dL_law_40 d6 (by decide) (by decide) ?_
        exact lc_scale hfl hnn C hX hbl hbA hi0 hi1 hi2 hi3 hi4 hi5 hi6 (AA.2.2.2.2.2.2.2.1) hs hI hl hc hS kk
      rcases Decidable.em (w = 7) with d7 | d7
      · refine sx_tblK (tgt := 595) (off := 555) 7 C dL_law_40 d7 (by decide) (by decide) ?_
        exact lc_precision hfl hnn C hX hbl hbA hi0 hi1 hi2 hi3 hi4 hi5 hi6 (AA.2.2.2.2.2.2.2.2.1) hs hI hl hc hS kk
      rcases Decidable.em (w = 8) with d8 | d8
      · refine sx_tblK (tgt := 651) (off := 611) 8 C dL_law_40 d8 (by decide) (by decide) ?_
        exact lc_join hfl hnn C hX hbl hbA hi0 hi1 hi2 hi3 hi4 hi5 hi6 (AA.2.2.2.2.2.2.2.2.2.1) hs hI hl hc hS kk
      rcases Decidable.em (w = 9) with d9 | d9
      · refine sx_tblK (tgt := 745) (off := 705) 9 C dL_law_40 d9 (by decide) (by decide) ?_
        exact lc_turn hfl hnn C hX hbl hbA hi0 hi1 hi2 hi3 hi4 hi5 hi6 (AA.2.2.2.2.2.2.2.2.2.2.1) hs hI hl hc hS kk
      rcases Decidable.em (w = 10) with d10 | d10
      · refine sx_tblK (tgt := 827) (off := 787) 10 C dL_law_40 d10 (by decide) (by decide) ?_
        exact lc_move hfl hnn C hX hbl hbA hi0 hi1 hi2 hi3 hi4 hi5 hi6 (AA.2.2.2.2.2.2.2.2.2.2.2.1) hs hI hl hc hS kk
      rcases Decidable.em (w = 11) with d11 | d11
      · refine sx_tblK (tgt := 907) (off := 867) 11 C dL_law_40 d11 (by decide) (by decide) ?_
        exact lc_setScale hfl hnn C hX hbl hbA hi0 hi1 hi2 hi3 hi4 hi5 hi6 (AA.2.2.2.2.2.2.2.2.2.2.2.2.1) hs hI hl hc hS kk
      rcases Decidable.em (w = 12) with d12 | d12
      · refine sx_tblK (tgt := 1001) (off := 961) 12 C dL_law_40 d12 (by decide) (by decide) ?_
        exact lc_round hfl hnn C hX hbl hbA hi0 hi1 hi2 hi3 hi4 hi5 hi6 (AA.2.2.2.2.2.2.2.2.2.2.2.2.2.1) hs hI hl hc hS kk
      rcases Decidable.em (w = 13) with d13 | d13
      · refine sx_tblK (tgt := 1095) (off := 1055) 13 C dL_law_40 d13 (by decide) (by decide) ?_
        exact lc_divide hfl hnn C hX hbl hbA hi0 hi1 hi2 hi3 hi4 hi5 hi6 (AA.2.2.2.2.2.2.2.2.2.2.2.2.2.2.1) hs hI hl hc hS kk
      rcases Decidable.em (w = 14) with d14 | d14
      · refine sx_tblK (tgt := 1201) (off := 1161) 14 C dL_law_40 d14 (by decide) (by decide) ?_
        exact lc_divideExactly hfl hnn C hX hbl hbA hi0 hi1 hi2 hi3 hi4 hi5 hi6 (AA.2.2.2.2.2.2.2.2.2.2.2.2.2.2.2.1) hs hI hl hc hS kk
      rcases Decidable.em (w = 15) with d15 | d15
      · refine sx_tblK (tgt := 1281) (off := 1241) 15 C dL_law_40 d15 (by decide) (by decide) ?_
        exact lc_compare hfl hnn C hX hbl hbA hi0 hi1 hi2 hi3 hi4 hi5 hi6 (AA.2.2.2.2.2.2.2.2.2.2.2.2.2.2.2.2.1) hs hI hl hc hS kk
      rcases Decidable.em (w = 16) with d16 | d16
      · refine sx_tblK (tgt := 1349) (off := 1309) 16 C dL_law_40 d16 (by decide) (by decide) ?_
        exact lc_isEqual hfl hnn C hX hbl hbA hi0 hi1 hi2 hi3 hi4 hi5 hi6 (AA.2.2.2.2.2.2.2.2.2.2.2.2.2.2.2.2.2.1) hs hI hl hc hS kk
      rcases Decidable.em (w = 17) with d17 | d17
      · refine sx_tblK (tgt := 1424) (off := 1384) 17 C dL_law_40 d17 (by decide) (by decide) ?_
        exact lc_setCurrency hfl hnn C hX hbl hbA hi0 hi1 hi2 hi3 hi4 hi5 hi6 (AA.2.2.2.2.2.2.2.2.2.2.2.2.2.2.2.2.2.2.1) hs hI hl hc hS kk
      rcases Decidable.em (w = 18) with d18 | d18
      · refine sx_tblK (tgt := 1518) (off := 1478) 18 C dL_law_40 d18 (by decide) (by decide) ?_
        exact lc_setRate hfl hnn C hX hbl hbA hi0 hi1 hi2 hi3 hi4 hi5 hi6 (AA.2.2.2.2.2.2.2.2.2.2.2.2.2.2.2.2.2.2.2.1) hs hI hl hc hS kk
      rcases Decidable.em (w = 19) with d19 | d19
      · refine sx_tblK (tgt := 1605) (off := 1565) 19 C dL_law_40 d19 (by decide) (by decide) ?_
        exact lc_change hfl hnn C hX hbl hbA hi0 hi1 hi2 hi3 hi4 hi5 hi6 (AA.2.2.2.2.2.2.2.2.2.2.2.2.2.2.2.2.2.2.2.2.1) hs hI hl hc hS kk
      rcases Decidable.em (w = 20) with d20 | d20
      · refine sx_tblK (tgt := 1716) (off := 1676) 20 C dL_law_40 d20 (by decide) (by decide) ?_
        exact lc_lost hfl hnn C hX hbl hbA hi0 hi1 hi2 hi3 hi4 hi5 hi6 (AA.2.2.2.2.2.2.2.2.2.2.2.2.2.2.2.2.2.2.2.2.2.1) hs hI hl hc hS kk
      rcases Decidable.em (w = 21) with d21 | d21
      · refine sx_tblK (tgt := 1827) (off := 1787) 21 C dL_law_40 d21 (by decide) (by decide) ?_
        exact lc_setTax hfl hnn C hX hbl hbA hi0 hi1 hi2 hi3 hi4 hi5 hi6 (AA.2.2.2.2.2.2.2.2.2.2.2.2.2.2.2.2.2.2.2.2.2.2.1) hs hI hl hc hS kk
      rcases Decidable.em (w = 22) with d22 | d22
      · refine sx_tblK (tgt := 1907) (off := 1867) 22 C dL_law_40 d22 (by decide) (by decide) ?_
        exact lc_tax hfl hnn C hX hbl hbA hi0 hi1 hi2 hi3 hi4 hi5 hi6 (AA.2.2.2.2.2.2.2.2.2.2.2.2.2.2.2.2.2.2.2.2.2.2.2.1) hs hI hl hc hS kk
      rcases Decidable.em (w = 23) with d23 | d23
      · refine sx_tblK (tgt := 1975) (off := 1935) 23 C dL_law_40 d23 (by decide) (by decide) ?_
        exact lc_setDiscount hfl hnn C hX hbl hbA hi0 hi1 hi2 hi3 hi4 hi5 hi6 (AA.2.2.2.2.2.2.2.2.2.2.2.2.2.2.2.2.2.2.2.2.2.2.2.2.1) hs hI hl hc hS kk
      rcases Decidable.em (w = 24) with d24 | d24
      · refine sx_tblK (tgt := 2055) (off := 2015) 24 C dL_law_40 d24 (by decide) (by decide) ?_
        exact lc_open hfl hnn C hX hbl hbA hi0 hi1 hi2 hi3 hi4 hi5 hi6 (AA.2.2.2.2.2.2.2.2.2.2.2.2.2.2.2.2.2.2.2.2.2.2.2.2.2.1) hs hI hl hc hS kk
      rcases Decidable.em (w = 25) with d25 | d25
      · refine sx_tblK (tgt := 2151) (off := 2111) 25 C dL_law_40 d25 (by decide) (by decide) ?_
        exact lc_line hfl hnn C hX hbl hbA hi0 hi1 hi2 hi3 hi4 hi5 hi6 (AA.2.2.2.2.2.2.2.2.2.2.2.2.2.2.2.2.2.2.2.2.2.2.2.2.2.2.1) hs hI hl hc hS kk
      rcases Decidable.em (w = 26) with d26 | d26
      · refine sx_tblK (tgt := 2243) (off := 2203) 26 C dL_law_40 d26 (by decide) (by decide) ?_
        exact lc_netOfLine hfl hnn C hX hbl hbA hi0 hi1 hi2 hi3 hi4 hi5 hi6 (AA.2.2.2.2.2.2.2.2.2.2.2.2.2.2.2.2.2.2.2.2.2.2.2.2.2.2.2.1) hs hI hl hc hS kk
      rcases Decidable.em (w = 27) with d27 | d27
      · refine sx_tblK (tgt := 2310) (off := 2270) 27 C dL_law_40 d27 (by decide) (by decide) ?_
        exact lc_net hfl hnn C hX hbl hbA hi0 hi1 hi2 hi3 hi4 hi5 hi6 (AA.2.2.2.2.2.2.2.2.2.2.2.2.2.2.2.2.2.2.2.2.2.2.2.2.2.2.2.2.1) hs hI hl hc hS kk
      rcases Decidable.em (w = 28) with d28 | d28
      · refine sx_tblK (tgt := 2365) (off := 2325) 28 C dL_law_40 d28 (by decide) (by decide) ?_
        exact lc_taxOf hfl hnn C hX hbl hbA hi0 hi1 hi2 hi3 hi4 hi5 hi6 (AA.2.2.2.2.2.2.2.2.2.2.2.2.2.2.2.2.2.2.2.2.2.2.2.2.2.2.2.2.2.1) hs hI hl hc hS kk
      rcases Decidable.em (w = 29) with d29 | d29
      · refine sx_tblK (tgt := 2420) (off := 2380) 29 C dL_law_40 d29 (by decide) (by decide) ?_
        exact lc_cash hfl hnn C hX hbl hbA hi0 hi1 hi2 hi3 hi4 hi5 hi6 (AA.2.2.2.2.2.2.2.2.2.2.2.2.2.2.2.2.2.2.2.2.2.2.2.2.2.2.2.2.2.2.1) hs hI hl hc hS kk
      rcases Decidable.em (w = 30) with d30 | d30
      · refine sx_tblK (tgt := 2475) (off := 2435) 30 C dL_law_40 d30 (by decide) (by decide) ?_
        exact lc_weigh hfl hnn C hX hbl hbA hi0 hi1 hi2 hi3 hi4 hi5 hi6 (AA.2.2.2.2.2.2.2.2.2.2.2.2.2.2.2.2.2.2.2.2.2.2.2.2.2.2.2.2.2.2.2.1) hs hI hl hc hS kk
      rcases Decidable.em (w = 31) with d31 | d31
      · refine sx_tblK (tgt := 2531) (off := 2491) 31 C dL_law_40 d31 (by decide) (by decide) ?_
        exact lc_share hfl hnn C hX hbl hbA hi0 hi1 hi2 hi3 hi4 hi5 hi6 (AA.2.2.2.2.2.2.2.2.2.2.2.2.2.2.2.2.2.2.2.2.2.2.2.2.2.2.2.2.2.2.2.2.1) hs hI hl hc hS kk
      rcases Decidable.em (w = 32) with d32 | d32
      · refine sx_tblK (tgt := 2633) (off := 2593) 32 C dL_law_40 d32 (by decide) (by decide) ?_
        exact lc_part hfl hnn C hX hbl hbA hi0 hi1 hi2 hi3 hi4 hi5 hi6 (AA.2.2.2.2.2.2.2.2.2.2.2.2.2.2.2.2.2.2.2.2.2.2.2.2.2.2.2.2.2.2.2.2.2.1) hs hI hl hc hS kk
      rcases Decidable.em (w = 33) with d33 | d33
      · refine sx_tblK (tgt := 2688) (off := 2648) 33 C dL_law_40 d33 (by decide) (by decide) ?_
        exact lc_interest hfl hnn C hX hbl hbA hi0 hi1 hi2 hi3 hi4 hi5 hi6 (AA.2.2.2.2.2.2.2.2.2.2.2.2.2.2.2.2.2.2.2.2.2.2.2.2.2.2.2.2.2.2.2.2.2.2.1) hs hI hl hc hS kk
      rcases Decidable.em (w = 34) with d34 | d34
      · refine sx_tblK (tgt := 2827) (off := 2787) 34 C dL_law_40 d34 (by decide) (by decide) ?_
        exact lc_lend hfl hnn C hX hbl hbA hi0 hi1 hi2 hi3 hi4 hi5 hi6 (AA.2.2.2.2.2.2.2.2.2.2.2.2.2.2.2.2.2.2.2.2.2.2.2.2.2.2.2.2.2.2.2.2.2.2.2.1) hs hI hl hc hS kk
      rcases Decidable.em (w = 35) with d35 | d35
      · refine sx_tblK (tgt := 2971) (off := 2931) 35 C dL_law_40 d35 (by decide) (by decide) ?_
        exact lc_instalment hfl hnn C hX hbl hbA hi0 hi1 hi2 hi3 hi4 hi5 hi6 (AA.2.2.2.2.2.2.2.2.2.2.2.2.2.2.2.2.2.2.2.2.2.2.2.2.2.2.2.2.2.2.2.2.2.2.2.2.1) hs hI hl hc hS kk
      rcases Decidable.em (w = 36) with d36 | d36
      · refine sx_tblK (tgt := 3040) (off := 3000) 36 C dL_law_40 d36 (by decide) (by decide) ?_
        exact lc_post hfl hnn C hX hbl hbA hi0 hi1 hi2 hi3 hi4 hi5 hi6 (AA.2.2.2.2.2.2.2.2.2.2.2.2.2.2.2.2.2.2.2.2.2.2.2.2.2.2.2.2.2.2.2.2.2.2.2.2.2.1) hs hI hl hc hS kk
      rcases Decidable.em (w = 37) with d37 | d37
      · refine sx_tblK (tgt := 3164) (off := 3124) 37 C dL_law_40 d37 (by decide) (by decide) ?_
        exact lc_book hfl hnn C hX hbl hbA hi0 hi1 hi2 hi3 hi4 hi5 hi6 (AA.2.2.2.2.2.2.2.2.2.2.2.2.2.2.2.2.2.2.2.2.2.2.2.2.2.2.2.2.2.2.2.2.2.2.2.2.2.2.1) hs hI hl hc hS kk
      rcases Decidable.em (w = 38) with d38 | d38
      · refine sx_tblK (tgt := 3220) (off := 3180) 38 C dL_law_40 d38 (by decide) (by decide) ?_
        exact lc_isBooked hfl hnn C hX hbl hbA hi0 hi1 hi2 hi3 hi4 hi5 hi6 (AA.2.2.2.2.2.2.2.2.2.2.2.2.2.2.2.2.2.2.2.2.2.2.2.2.2.2.2.2.2.2.2.2.2.2.2.2.2.2.2.1) hs hI hl hc hS kk
      rcases Decidable.em (w = 39) with d39 | d39
      · refine sx_tblK (tgt := 3283) (off := 3243) 39 C dL_law_40 d39 (by decide) (by decide) ?_
        exact lc_side hfl hnn C hX hbl hbA hi0 hi1 hi2 hi3 hi4 hi5 hi6 (AA.2.2.2.2.2.2.2.2.2.2.2.2.2.2.2.2.2.2.2.2.2.2.2.2.2.2.2.2.2.2.2.2.2.2.2.2.2.2.2.2.1) hs hI hl hc hS kk
      rcases Decidable.em (w = 40) with d40 | d40
      · refine sx_tblK (tgt := 3378) (off := 3338) 40 C dL_law_40 d40 (by decide) (by decide) ?_
        exact lc_nextAccount hfl hnn C hX hbl hbA hi0 hi1 hi2 hi3 hi4 hi5 hi6 (AA.2.2.2.2.2.2.2.2.2.2.2.2.2.2.2.2.2.2.2.2.2.2.2.2.2.2.2.2.2.2.2.2.2.2.2.2.2.2.2.2.2.1) hs hI hl hc hS kk
      rcases Decidable.em (w = 41) with d41 | d41
      · refine sx_tblK (tgt := 3434) (off := 3394) 41 C dL_law_40 d41 (by decide) (by decide) ?_
        exact lc_shut hfl hnn C hX hbl hbA hi0 hi1 hi2 hi3 hi4 hi5 hi6 (AA.2.2.2.2.2.2.2.2.2.2.2.2.2.2.2.2.2.2.2.2.2.2.2.2.2.2.2.2.2.2.2.2.2.2.2.2.2.2.2.2.2.2.1) hs hI hl hc hS kk
      rcases Decidable.em (w = 42) with d42 | d42
      · refine sx_tblK (tgt := 3490) (off := 3450) 42 C dL_law_40 d42 (by decide) (by decide) ?_
        exact lc_undo hfl hnn C hX hbl hbA hi0 hi1 hi2 hi3 hi4 hi5 hi6 (AA.2.2.2.2.2.2.2.2.2.2.2.2.2.2.2.2.2.2.2.2.2.2.2.2.2.2.2.2.2.2.2.2.2.2.2.2.2.2.2.2.2.2.2.1) hs hI hl hc hS kk
      rcases Decidable.em (w = 43) with d43 | d43
      · refine sx_tblK (tgt := 3534) (off := 3494) 43 C dL_law_40 d43 (by decide) (by decide) ?_
        exact lc_isSound hfl hnn C hX hbl hbA hi0 hi1 hi2 hi3 hi4 hi5 hi6 (AA.2.2.2.2.2.2.2.2.2.2.2.2.2.2.2.2.2.2.2.2.2.2.2.2.2.2.2.2.2.2.2.2.2.2.2.2.2.2.2.2.2.2.2.2) hs hI hl hc hS kk
      refine sx_tblD (tgt := 3547) [0, 1, 2, 3, 4, 5, 6, 7, 8, 9, 10, 11, 12, 13, 14, 15, 16, 17, 18, 19, 20, 21, 22, 23, 24, 25, 26, 27, 28, 29, 30, 31, 32, 33, 34, 35, 36, 37, 38, 39, 40, 41, 42, 43] C dL_law_40 (by decide) (by decide) (List.forall_mem_cons.mpr ⟨d0, (List.forall_mem_cons.mpr ⟨d1, (List.forall_mem_cons.mpr ⟨d2, (List.forall_mem_cons.mpr ⟨d3, (List.forall_mem_cons.mpr ⟨d4, (List.forall_mem_cons.mpr ⟨d5, (List.forall_mem_cons.mpr ⟨d6, (List.forall_mem_cons.mpr ⟨d7, (List.forall_mem_cons.mpr ⟨d8, (List.forall_mem_cons.mpr ⟨d9, (List.forall_mem_cons.mpr ⟨d10, (List.forall_mem_cons.mpr ⟨d11, (List.forall_mem_cons.mpr ⟨d12, (List.forall_mem_cons.mpr ⟨d13, (List.forall_mem_cons.mpr ⟨d14, (List.forall_mem_cons.mpr ⟨d15, (List.forall_mem_cons.mpr ⟨d16, (List.forall_mem_cons.mpr ⟨d17, (List.forall_mem_cons.mpr ⟨d18, (List.forall_mem_cons.mpr ⟨d19, (List.forall_mem_cons.mpr ⟨d20, (List.forall_mem_cons.mpr ⟨d21, (List.forall_mem_cons.mpr ⟨d22, (List.forall_mem_cons.mpr ⟨d23, (List.forall_mem_cons.mpr ⟨d24, (List.forall_mem_cons.mpr ⟨d25, (List.forall_mem_cons.mpr ⟨d26, (List.forall_mem_cons.mpr ⟨d27, (List.forall_mem_cons.mpr ⟨d28, (List.forall_mem_cons.mpr ⟨d29, (List.forall_mem_cons.mpr ⟨d30, (List.forall_mem_cons.mpr ⟨d31, (List.forall_mem_cons.mpr ⟨d32, (List.forall_mem_cons.mpr ⟨d33, (List.forall_mem_cons.mpr ⟨d34, (List.forall_mem_cons.mpr ⟨d35, (List.forall_mem_cons.mpr ⟨d36, (List.forall_mem_cons.mpr ⟨d37, (List.forall_mem_cons.mpr ⟨d38, (List.forall_mem_cons.mpr ⟨d39, (List.forall_mem_cons.mpr ⟨d40, (List.forall_mem_cons.mpr ⟨d41, (List.forall_mem_cons.mpr ⟨d42, (List.forall_mem_cons.mpr ⟨d43, (fun _ h => nomatch h)⟩)⟩)⟩)⟩)⟩)⟩)⟩)⟩)⟩)⟩)⟩)⟩)⟩)⟩)⟩)⟩)⟩)⟩)⟩)⟩)⟩)⟩)⟩)⟩)⟩)⟩)⟩)⟩)⟩)⟩)⟩)⟩)⟩)⟩)⟩)⟩)⟩)⟩)⟩)⟩)⟩)⟩)⟩)⟩) (by decide) ?_
      refine W.widen (k := C0 + 5 * n + 5) (n := S0 + 2048 * n + 2048) (by omega) (by omega) ?_
      exact kk _ _ _ _ _ hs (AA.1 _ _ hI) hl
/-! ===== the start: the words, the texts, the classes, the statics ===== -/
abbrev gvn : Cond := Jvm.Cond.and given_1 narrow_1
theorem st_str : ∀ q ∈ GS, Cond.exactly (Term.string q.1 q.2.1) "java/lang/String" ∈ flatC gvn := by decide +kernel
theorem st_ref : ∀ q ∈ GS, Cond.stringRef q.1 q.2.1 q.2.2 ∈ lw_tbl := by
  intro q hq
  obtain ⟨w, hw, he⟩ := List.mem_filterMap.mp hq
  split at he
  · cases he
    exact hw
  · cases he
theorem st_pow : ∀ j, j < 19 → Cond.eq (.elem (.static "Tillhouse$Reckoning" "POWERS" "[J") (.int (Int32.ofNat j))) (.long (ptab j)) ∈ flatC gvn := by decide +kernel
theorem st_pw : Cond.arrayOf (.static "Tillhouse$Reckoning" "POWERS" "[J") .long ∈ flatC gvn ∧ Cond.eq (.length (.static "Tillhouse$Reckoning" "POWERS" "[J")) (.int 19) ∈ flatC gvn := by decide +kernel
theorem st_thr : Cond.isRef (.static Bundle.tN "UNASSIGNED_STACK" Bundle.steD) ∈ flatC gvn ∧ Cond.isRef (.static Bundle.tN "SUPPRESSED_SENTINEL" Bundle.listD) ∈ flatC gvn := by decide +kernel
theorem st_lay : Cond.laysStatic Bundle.tN "UNASSIGNED_STACK" Bundle.steD ∈ lw_tbl ∧ Cond.laysStatic Bundle.tN "SUPPRESSED_SENTINEL" Bundle.listD ∈ lw_tbl ∧ Cond.laysStatic "Tillhouse$Reckoning" "POWERS" "[J" ∈ lw_tbl ∧ Cond.initialized Bundle.tN ∈ lw_tbl ∧ Cond.initialized "Tillhouse$Reckoning" ∈ lw_tbl := by decide +kernel
theorem st_nc : ∀ a, a < 6 → ∀ b, b < 6 → a = b ∨ Cond.not (.castable (exN a) (exN b)) ∈ flatC gvn := by decide +kernel
theorem st_ca : ∀ a, a < 6 → Cond.castable (exN a) (exN a) ∈ lw_tbl := by decide +kernel
theorem exN_min (a : Nat) : ∃ b, b < 6 ∧ exN a = exN b := by
  match a with
  | 0 => exact ⟨0, by decide, rfl⟩
  | 1 => exact ⟨1, by decide, rfl⟩
  | 2 => exact ⟨2, by decide, rfl⟩
  | 3 => exact ⟨3, by decide, rfl⟩
  | 4 => exact ⟨4, by decide, rfl⟩
  | n + 5 => exact ⟨5, by decide, rfl⟩
theorem st_arr {args : Array Value} {s : State} {t : FieldType} (h : (Cond.arrayClass t).before args s = true) (ht : ∀ n, t ≠ .object n) : ∃ c, ArrOfT s c t ∧ va_RA s c t := by
  obtain ⟨c, k, comp, h1, h2, h3⟩ := Cond.arrayClass_spec h
  refine ⟨c, fun n z => ⟨(fun k h => by cases h), k, h2, comp, h3⟩, ?_⟩
  cases t with
  | object n => exact absurd rfl (ht n)
  | _ => exact h1
theorem st_over {args : Array Value} {s : State} {n : String} (h : (Cond.arrayOver (.object n)).before args s = true) : ∃ c, ArrOfT s c (.object n) ∧ va_RA s c (.object n) := by
  obtain ⟨comp, c, k, h1, -, h2, h3, h4⟩ := Cond.arrayOver_spec h
  exact ⟨c, fun N z => ⟨(fun k h => by cases h), k, h2, comp, h3⟩, k, comp, h2, h3, h1, h4⟩
theorem st_cls {args : Array Value} {s : State} {C : String} {T : u_T} {N : Nat} (hts : ∀ w ∈ GW, w.before args s = true) (hin : ∀ w ∈ u_ws C T N, w ∈ GW) (hi : Cond.instantiable C N ∈ GW) : ∃ x : ClassId × (Nat → Nat), u_Kn s C T N x.1 x.2 := by
  obtain ⟨c, iS, h⟩ := u_known (n := N) hts hin (hts _ hi)
  exact ⟨(c, iS), h⟩
set_option maxHeartbeats 4000000 in
theorem st_Gd {s : State} {args : Array Value} (hts : ∀ w ∈ lw_tbl, w.before args s = true) (hgv : gvn.before args s = true) : ∃ (D : va_G) (cy : Nat → ClassId) (t : Nat), Gd (D, cy, t, s.heap.size) s s.heap := by
  have hs := flat_of_before _ hgv
  have hg : ∀ w ∈ GW, ∀ a : Array Value, w.before a s = true := fun w hw a => okW_tr (GW_ok hw) (State.WarmedH.refl s) (hts w (List.mem_filter.mp hw).1)
  have hg0 : ∀ w ∈ GW, w.before args s = true := fun w hw => hg w hw args
  have hA : ∀ a : Nat, a < s.heap.size → ¬ (fun q : Nat => s.heap.size ≤ q) a := fun a h => Nat.not_le.mpr h
  obtain ⟨t, ht, hT⟩ := va_Tof (N := 19) (f := fun j => .long (ptab j)) (A := fun q : Nat => s.heap.size ≤ q) (by decide) (hs _ st_pw.1) (va_eqt (hs _ st_pw.2)) (fun j hj => va_eqtl (hs _ (st_pow j hj))) hA
  have hc : ∀ k : Nat, ∃ x : ClassId × (Nat → Nat), ∀ q : vw_C, scl[k]? = some q → u_Kn s q.1 q.2.1 q.2.2 x.1 x.2 := by
    intro k
    match k with
    | 0 =>
      obtain ⟨x, h⟩ := st_cls hg0 inX0 q212
      exact ⟨x, fun q hq => by cases hq; exact h⟩
    | 1 =>
      obtain ⟨x, h⟩ := st_cls hg0 inX1 q765
      exact ⟨x, fun q hq => by cases hq; exact h⟩
    | 2 =>
      obtain ⟨x, h⟩ := st_cls hg0 inX2 q1001
      exact ⟨x, fun q hq => by cases hq; exact h⟩
    | 3 =>
      obtain ⟨x, h⟩ := st_cls hg0 inX3 q174
      exact ⟨x, fun q hq => by cases hq; exact h⟩
    | 4 =>
      obtain ⟨x, h⟩ := st_cls hg0 inX4 q148
      exact ⟨x, fun q hq => by cases hq; exact h⟩
    | 5 =>
      obtain ⟨x, h⟩ := st_cls hg0 inX5 q883
      exact ⟨x, fun q hq => by cases hq; exact h⟩
    | 6 =>
      obtain ⟨x, h⟩ := st_cls hg0 inX7 q119
      exact ⟨x, fun q hq => by cases hq; exact h⟩
    | 7 =>
      obtain ⟨x, h⟩ := st_cls hg0 inX8 q230
      exact ⟨x, fun q hq => by cases hq; exact h⟩
    | 8 =>
      obtain ⟨x, h⟩ := st_cls hg0 inX9 q99
      exact ⟨x, fun q hq => by cases hq; exact h⟩
    | 9 =>
      obtain ⟨x, h⟩ := st_cls hg0 inX10 q461
      exact ⟨x, fun q hq => by cases hq; exact h⟩
    | 10 =>
      obtain ⟨x, h⟩ := st_cls hg0 inX11 q89
      exact ⟨x, fun q hq => by cases hq; exact h⟩
    | 11 =>
      obtain ⟨x, h⟩ := st_cls hg0 inX12 q1347
      exact ⟨x, fun q hq => by cases hq; exact h⟩
    | n + 12 =>
      obtain ⟨x, h⟩ := st_cls hg0 inX0 q212
      exact ⟨x, fun q hq => by simp [scl] at hq⟩
  have ha : ∀ k : Nat, ∃ c : ClassId, k < 8 → ArrOfT s c (tgT k) ∧ va_RA s c (tgT k) := by
    intro k
    match k with
    | 0 => obtain ⟨c, h⟩ := st_arr (t := .char) (hts (.arrayClass .char) (by decide +kernel)) (fun _ h => by cases h); exact ⟨c, fun _ => h⟩
    | 1 => obtain ⟨c, h⟩ := st_arr (t := .int) (hts (.arrayClass .int) (by decide +kernel)) (fun _ h => by cases h); exact ⟨c, fun _ => h⟩
    | 2 => obtain ⟨c, h⟩ := st_arr (t := .long) (hts (.arrayClass .long) (by decide +kernel)) (fun _ h => by cases h); exact ⟨c, fun _ => h⟩
    | 3 => obtain ⟨c, h⟩ := st_arr (t := .boolean) (hts (.arrayClass .boolean) (by decide +kernel)) (fun _ h => by cases h); exact ⟨c, fun _ => h⟩
    | 4 => obtain ⟨c, h⟩ := st_over (n := "Tillhouse$Value") (hts (.arrayOver (.object "Tillhouse$Value")) (by decide +kernel)); exact ⟨c, fun _ => h⟩
    | 5 => obtain ⟨c, h⟩ := st_over (n := "Tillhouse$Currency") (hts (.arrayOver (.object "Tillhouse$Currency")) (by decide +kernel)); exact ⟨c, fun _ => h⟩
    | 6 => obtain ⟨c, h⟩ := st_over (n := "Tillhouse$Steps") (hts (.arrayOver (.object "Tillhouse$Steps")) (by decide +kernel)); exact ⟨c, fun _ => h⟩
    | 7 => obtain ⟨c, h⟩ := st_over (n := "Tillhouse$Invoice") (hts (.arrayOver (.object "Tillhouse$Invoice")) (by decide +kernel)); exact ⟨c, fun _ => h⟩
    | n + 8 =>
      obtain ⟨x, h⟩ := st_cls hg0 inX0 q212
      exact ⟨x.1, fun h => absurd h (by omega)⟩
  obtain ⟨fc, hfc⟩ := Classical.axiomOfChoice hc
  obtain ⟨fa, hfa⟩ := Classical.axiomOfChoice ha
  refine ⟨(fun k => (fc k).1, fun k => (fc k).2), fa, t, hg, fun q hq => ?_, ⟨fun k q hq => hfc k q hq, fun k q hq => ?_⟩, ⟨va_Zof (hts _ st_lay.2.2.1) (hts _ st_lay.2.2.2.2) ht hA, hT⟩, ⟨vx_Zqof (hts _ st_lay.1) (hts _ st_lay.2.2.2.1) (hs _ st_thr.1) hA, vx_Zqof (hts _ st_lay.2.1) (hts _ st_lay.2.2.2.1) (hs _ st_thr.2) hA⟩, fun a b => ?_, fun a => ?_⟩
  · obtain ⟨a, c, cA, kA, q1, -⟩ := Cond.exactly_spec (args := args) (first := s) (o := none) (s := s) (idx := []) (t := Term.string q.1 q.2.1) (cls := "java/lang/String") (hs _ (st_str q hq))
    exact ⟨a, vk_R.of (A := args) (hts _ (st_ref q hq)) q1⟩
  · by_cases hk : k < 8
    · rw [gTys_at _ hk] at hq
      cases hq
      exact hfa k hk
    · rw [List.getElem?_eq_none (by show 8 ≤ k; omega)] at hq
      cases hq
  · obtain ⟨a', h1, h2⟩ := exN_min a
    obtain ⟨b', h3, h4⟩ := exN_min b
    rw [h2, h4]
    rcases st_nc a' h1 b' h3 with rfl | h
    · exact Or.inr rfl
    · exact Or.inl (va_Nc.of (hs _ h))
  · obtain ⟨a', h1, h2⟩ := exN_min a
    rw [h2]
    exact va_Nw.use rfl (va_Nw.of rfl (hts _ (st_ca a' h1)))
/-- what is asked of the pair from the start on -/
def St0 (I : Nat → Nat → Nat → Nat → Sto → Prop) : Prop := ∀ b0 : Nat, ∃ σ2 sz2 σ4 sz4, f_X11_init (nO (fun _ => none) b0 10 dvX11) (b0 + 1) b0 = some ((), σ2, sz2) ∧ f_X12_init (nO σ2 sz2 11 dvX12) (sz2 + 1) sz2 = some ((), σ4, sz4) ∧ I b0 sz2 sz4 0 (nA σ4 sz4 2 1 z2)
