/-! ===== the start: the invariant holds ===== -/
theorem Lv_0 {g j : Nat} (h : Lv 0 g j) : (g < 25 ∧ j = 0) ∨ (g = 25 ∧ j < 4) ∨ (g = 26 ∧ j < 12) ∨ (g = 27 ∧ j < 12) ∨ (g = 28 ∧ j < 12) := by
  unfold Lv at h
  split at h <;> omega
theorem offs_wi {g j : Nat} (h : Lv 0 g j) : offs g j < 65 ∧ wi (offs g j) = (g, j) := by
  rcases Lv_0 h with ⟨h1, h2⟩ | ⟨h1, h2⟩ | ⟨h1, h2⟩ | ⟨h1, h2⟩ | ⟨h1, h2⟩
  · have e : offs g j = g := by
      unfold offs
      rw [if_neg (by omega), if_neg (by omega), if_neg (by omega), if_neg (by omega)]
    rw [e, h2]
    refine ⟨by omega, ?_⟩
    unfold wi
    rw [if_pos h1]
  · have e : offs g j = 25 + j := by unfold offs; rw [if_pos h1]
    rw [e, h1]
    refine ⟨by omega, ?_⟩
    unfold wi
    rw [if_neg (by omega), if_pos (by omega)]
    exact congrArg (Prod.mk 25) (by omega)
  · have e : offs g j = 29 + 3 * j := by unfold offs; rw [if_neg (by omega), if_pos h1]
    rw [e, h1]
    refine ⟨by omega, ?_⟩
    unfold wi
    rw [if_neg (by omega), if_neg (by omega), show 26 + (29 + 3 * j - 29) % 3 = 26 by omega]
    exact congrArg (Prod.mk 26) (by omega)
  · have e : offs g j = 30 + 3 * j := by unfold offs; rw [if_neg (by omega), if_neg (by omega), if_pos h1]
    rw [e, h1]
    refine ⟨by omega, ?_⟩
    unfold wi
    rw [if_neg (by omega), if_neg (by omega), show 26 + (30 + 3 * j - 29) % 3 = 27 by omega]
    exact congrArg (Prod.mk 27) (by omega)
  · have e : offs g j = 31 + 3 * j := by unfold offs; rw [if_neg (by omega), if_neg (by omega), if_neg (by omega), if_pos h1]
    rw [e, h1]
    refine ⟨by omega, ?_⟩
    unfold wi
    rw [if_neg (by omega), if_neg (by omega), show 26 + (31 + 3 * j - 29) % 3 = 28 by omega]
    exact congrArg (Prod.mk 28) (by omega)
theorem wi_offs {i : Nat} (h : i < 65) : offs (wi i).1 (wi i).2 = i ∧ Lv 0 (wi i).1 (wi i).2 := by
  unfold wi
  by_cases h1 : i < 25
  · rw [if_pos h1]
    refine ⟨?_, ?_⟩
    · show offs i 0 = i
      unfold offs
      rw [if_neg (by omega), if_neg (by omega), if_neg (by omega), if_neg (by omega)]
    · show Lv 0 i 0
      unfold Lv
      split <;> omega
  · rw [if_neg h1]
    by_cases h2 : i < 29
    · rw [if_pos h2]
      refine ⟨?_, ?_⟩
      · show offs 25 (i - 25) = i
        unfold offs
        rw [if_pos rfl]
        omega
      · show i - 25 < 4
        omega
    · rw [if_neg h2]
      rcases (show (i - 29) % 3 = 0 ∨ (i - 29) % 3 = 1 ∨ (i - 29) % 3 = 2 by omega) with e | e | e
      · rw [e]
        refine ⟨?_, ?_⟩
        · show offs 26 ((i - 29) / 3) = i
          unfold offs
          rw [if_neg (by decide), if_pos rfl]
          omega
        · show (i - 29) / 3 < 12
          omega
      · rw [e]
        refine ⟨?_, ?_⟩
        · show offs 27 ((i - 29) / 3) = i
          unfold offs
          rw [if_neg (by decide), if_neg (by decide), if_pos rfl]
          omega
        · show (i - 29) / 3 < 12
          omega
      · rw [e]
        refine ⟨?_, ?_⟩
        · show offs 28 ((i - 29) / 3) = i
          unfold offs
          rw [if_neg (by decide), if_neg (by decide), if_neg (by decide), if_pos rfl]
          omega
        · show (i - 29) / 3 < 12
          omega
theorem Gk_0 (b0 : Nat) : Gk 0 (A0 b0) (W0 b0) := by
  refine ⟨fun g j hl => ?_, fun a g j hw => ?_⟩
  · obtain ⟨h1, h2⟩ := offs_wi hl
    unfold W0 A0
    rw [if_pos ⟨by omega, by omega⟩, show b0 + offs g j - b0 = offs g j by omega, h2]
  · unfold W0 at hw
    by_cases h : b0 ≤ a ∧ a < b0 + 65
    · rw [if_pos h] at hw
      have e := Option.some.inj hw
      have e1 : (wi (a - b0)).1 = g := congrArg Prod.fst e
      have e2 : (wi (a - b0)).2 = j := congrArg Prod.snd e
      obtain ⟨w1, w2⟩ := wi_offs (i := a - b0) (by omega)
      rw [e1, e2] at w1 w2
      refine ⟨?_, w2⟩
      unfold A0
      omega
    · rw [if_neg h] at hw; cases hw
theorem Rel_0 (b0 : Nat) (σ : Sto) : Rel 0 0 (A0 b0) K0 M0 σ := by
  refine ⟨fun k hk => Or.inl ⟨rfl, rfl⟩, ⟨0, by decide, rfl, rfl, fun i hi => absurd hi (by omega)⟩, fun c hc => ⟨2, 1, 104, by decide, by decide, by decide, by decide, rfl, rfl, rfl, ?_, ?_, ?_⟩, fun k hk => Or.inl ⟨rfl, rfl⟩, ?_, ?_, ?_, ?_, ?_⟩
  · rcases (show c = 0 ∨ c = 1 ∨ c = 2 ∨ c = 3 by omega) with rfl | rfl | rfl | rfl <;> rfl
  · have e : nC 104 = 104 := by decide
    rcases (show c = 0 ∨ c = 1 ∨ c = 2 ∨ c = 3 by omega) with rfl | rfl | rfl | rfl <;> exact e
  · rcases (show c = 0 ∨ c = 1 ∨ c = 2 ∨ c = 3 by omega) with rfl | rfl | rfl | rfl <;> rfl
  · have st : ∀ j k, StT (fun _ _ => none) K0 j k 0 := fun j k => ⟨rfl, Nat.zero_le _, rfl, Nat.le_refl _, Or.inl rfl, fun i hi => absurd hi (by omega), fun i i' hi => absurd hi (by omega), fun p h => absurd rfl h⟩
    have mt : ∀ x y z, MtT (fun _ _ => none) x y z 0 := fun x y z => ⟨fun i hi => absurd hi (by omega), fun i i' hi => absurd hi (by omega), fun k p h => absurd rfl h⟩
    exact ⟨fun _ _ => none, fun _ _ => none, fun _ => 0, fun _ => 0, 0, 0, fun k hk => ⟨Nat.le_refl _, st _ _, rfl⟩, fun k hk => ⟨Nat.le_refl _, st _ _, rfl⟩, Nat.le_refl _, Nat.le_refl _, rfl, rfl, mt _ _ _, mt _ _ _, fun k p v h => (by cases h), fun k p v h => (by cases h)⟩
  · exact ⟨by decide, rfl, rfl, fun i _ _ => rfl, fun i hi => absurd hi (by omega)⟩
  · exact ⟨0, 0, by decide, by decide, rfl, rfl, rfl, rfl, fun i hi => absurd hi (by omega), fun i hi => absurd hi (by omega), rfl⟩
  · exact ⟨0, by decide, rfl, rfl, fun i hi => absurd hi (by omega), fun i hi => absurd hi (by omega), rfl⟩
  · refine ⟨0, 0, -1, fun _ => 0, ⟨by decide, by decide, by decide, by decide, ⟨rfl, rfl, rfl, rfl, rfl, rfl⟩, fun i hi => absurd hi (by omega), fun i hi => absurd hi (by omega), fun i j _ hj => absurd hj (by omega), fun i i' hi => absurd hi (by omega), fun v hv => ⟨Or.inl rfl, ?_⟩, rfl⟩, Nat.zero_le _⟩
    constructor
    · intro h
      exact absurd h (by decide : ¬ (0 : Int32) = 1)
    · rintro ⟨i, hi, -⟩
      omega
theorem start_ok : St0 I0 := by
  intro b0
  obtain ⟨F1, r1, c1⟩ := st_X11 b0
  obtain ⟨F2, r2, c2⟩ := st_X12 (stg (fun _ => none) b0 F1) (b0 + 65)
  refine ⟨_, _, _, _, r1, r2, 0, A0 b0, W0 b0, K0, M0, rfl, rfl, ⟨Gk_0 b0, fun a q hw => ?_, ?_, fun a h1 h2 => ?_, _, va_up_self _ _ _⟩, Rel_0 b0 _⟩
  · unfold W0 at hw
    by_cases h : b0 ≤ a ∧ a < b0 + 65
    · rw [if_pos h] at hw
      have e := Option.some.inj hw
      have s1 : nA (stg (stg (fun _ => none) b0 F1) (b0 + 65) F2) (b0 + 65 + 41) 2 1 z2 a = stg (stg (fun _ => none) b0 F1) (b0 + 65) F2 a := va_up_ne _ _ (by omega)
      rw [s1, stg_lo (by omega), stg_at (i := a - b0) (by omega), c1 _ (by omega), e]
    · rw [if_neg h] at hw; cases hw
  · show ov (b0 + 65) M0 _ = _
    funext a
    by_cases h : a < b0 + 65 ∨ b0 + 65 + 41 ≤ a
    · exact ov_hi h
    · have s1 : nA (stg (stg (fun _ => none) b0 F1) (b0 + 65) F2) (b0 + 65 + 41) 2 1 z2 a = stg (stg (fun _ => none) b0 F1) (b0 + 65) F2 a := va_up_ne _ _ (by omega)
      rw [s1, stg_at (i := a - (b0 + 65)) (by omega), c2 _ (by omega)]
      unfold ov
      rw [if_pos ⟨by omega, by omega⟩]
  · unfold W0
    rw [if_neg (by omega)]
theorem all_agree (xb mb ob : Nat) : A_all (I0 xb mb ob) 100000000000000000000 xb mb ob := by
  have h1 : 1000 ≤ 100000000000000000000 := by decide
  have h2 : 10000000000000000000 ≤ 100000000000000000000 := by decide
  refine ⟨fun n σ h => ?_, p_put h1, p_type, p_fault h1, p_read h1, p_wipe, p_unscaled, p_scale, p_precision h1, p_join h1, p_turn h1, p_move h1, p_setScale h1, p_round h1, p_divide h1, p_divideExactly h2, p_compare h1, p_isEqual, p_setCurrency, p_setRate, p_change h1, p_lost h1, p_setTax h1, p_tax h1, p_setDiscount h1, fun v1 v2 v3 hv => q_open v1 v2 v3 hv, p_line h1, p_netOfLine h1, p_net h1, p_taxOf h1, p_cash h1, p_weigh, p_share h1, p_part, p_interest h1, p_lend h1, p_instalment, p_post, p_book h1, p_isBooked h1, p_side h1, p_nextAccount h1, p_shut h1, p_undo, p_isSound h1⟩
  obtain ⟨ni, A, W, K, M, a, b, c, d⟩ := h
  exact ⟨ni, A, W, K, M, a, b, c, d.up⟩
