/-! ===== the start: the reference's cells ===== -/
def M0 : MS := (fun k => if k = 47 then -1 else 0, fun k => if k = 9 then va_up (va_up (va_up (va_up (fun _ => 0) 0 2) 1 2) 2 2) 3 2 else if k = 10 then va_up (va_up (va_up (va_up (fun _ => 0) 0 1) 1 1) 2 1) 3 1 else if k = 11 then va_up (va_up (va_up (va_up (fun _ => 0) 0 (nC 104)) 1 (nC 104)) 2 (nC 104)) 3 (nC 104) else fun _ => 0, fun _ _ => 0)
set_option maxHeartbeats 4000000 in
set_option maxRecDepth 100000 in
theorem st_X12 (σ : Sto) (mb : Nat) : ∃ F, f_X12_init (nO σ mb 11 dvX12) (mb + 1) mb = some ((), stg σ mb F, mb + 41) ∧ ∀ i, i < 41 → F i = mEnt mb M0 i := by
  refine ⟨?_, ?_, ?_⟩
  case refine_2 =>
    have e0 : nO σ mb 11 dvX12 = stg σ mb (va_up (fun i => σ (mb + i)) 0 (some (.inl (11, dvX12)))) := by
      rw [← nO_s0 (F := fun i => σ (mb + i))]
      exact congrArg (fun s => nO s mb 11 dvX12) (stg_id (σ := σ)).symm
    rw [e0]
    unfold f_X12_init
    dsimp only [lt_]
    rw [nA_sg (i := 1) rfl]
    rw [pF_s0 (by rfl), Option.bind_some]
    rw [nA_sg (i := 2) rfl]
    rw [pF_s0 (by rfl), Option.bind_some]
    rw [nA_sg (i := 3) rfl]
    rw [pF_s0 (by rfl), Option.bind_some]
    rw [nA_sg (i := 4) rfl]
    rw [pF_s0 (by rfl), Option.bind_some]
    rw [nA_sg (i := 5) rfl]
    rw [pF_s0 (by rfl), Option.bind_some]
    rw [nA_sg (i := 6) rfl]
    rw [pF_s0 (by rfl), Option.bind_some]
    rw [nA_sg (i := 7) rfl]
    rw [pF_s0 (by rfl), Option.bind_some]
    rw [nA_sg (i := 8) rfl]
    rw [pF_s0 (by rfl), Option.bind_some]
    rw [nA_sg (i := 9) rfl]
    rw [pF_s0 (by rfl), Option.bind_some]
    rw [nA_sg (i := 10) rfl]
    rw [pF_s0 (by rfl), Option.bind_some]
    rw [nA_sg (i := 11) rfl]
    rw [pF_s0 (by rfl), Option.bind_some]
    rw [nA_sg (i := 12) rfl]
    rw [pF_s0 (by rfl), Option.bind_some]
    rw [nA_sg (i := 13) rfl]
    rw [pF_s0 (by rfl), Option.bind_some]
    rw [nA_sg (i := 14) rfl]
    rw [pF_s0 (by rfl), Option.bind_some]
    rw [nA_sg (i := 15) rfl]
    rw [pF_s0 (by rfl), Option.bind_some]
    rw [nA_sg (i := 16) rfl]
    rw [pF_s0 (by rfl), Option.bind_some]
    rw [nA_sg (i := 17) rfl]
    rw [pF_s0 (by rfl), Option.bind_some]
    rw [nA_sg (i := 18) rfl]
    rw [pF_s0 (by rfl), Option.bind_some]
    rw [nA_sg (i := 19) rfl]
    rw [pF_s0 (by rfl), Option.bind_some]
    rw [nA_sg (i := 20) rfl]
    rw [pF_s0 (by rfl), Option.bind_some]
    rw [nA_sg (i := 21) rfl]
    rw [pF_s0 (by rfl), Option.bind_some]
    rw [nA_sg (i := 22) rfl]
    rw [pF_s0 (by rfl), Option.bind_some]
    rw [nA_sg (i := 23) rfl]
    rw [pF_s0 (by rfl), Option.bind_some]
    rw [nA_sg (i := 24) rfl]
    rw [pF_s0 (by rfl), Option.bind_some]
    rw [nA_sg (i := 25) rfl]
    rw [pF_s0 (by rfl), Option.bind_some]
    rw [nA_sg (i := 26) rfl]
    rw [pF_s0 (by rfl), Option.bind_some]
    rw [nA_sg (i := 27) rfl]
    rw [pF_s0 (by rfl), Option.bind_some]
    rw [nA_sg (i := 28) rfl]
    rw [pF_s0 (by rfl), Option.bind_some]
    rw [nA_sg (i := 29) rfl]
    rw [pF_s0 (by rfl), Option.bind_some]
    rw [nA_sg (i := 30) rfl]
    rw [pF_s0 (by rfl), Option.bind_some]
    rw [nA_sg (i := 31) rfl]
    rw [pF_s0 (by rfl), Option.bind_some]
    rw [nA_sg (i := 32) rfl]
    rw [pF_s0 (by rfl), Option.bind_some]
    rw [nA_sg (i := 33) rfl]
    rw [pF_s0 (by rfl), Option.bind_some]
    rw [nA_sg (i := 34) rfl]
    rw [pF_s0 (by rfl), Option.bind_some]
    rw [nA_sg (i := 35) rfl]
    rw [pF_s0 (by rfl), Option.bind_some]
    rw [nA_sg (i := 36) rfl]
    rw [pF_s0 (by rfl), Option.bind_some]
    rw [nA_sg (i := 37) rfl]
    rw [pF_s0 (by rfl), Option.bind_some]
    rw [pF_s0 (by rfl), Option.bind_some]
    rw [nA_sg (i := 38) rfl]
    rw [pF_s0 (by rfl), Option.bind_some]
    rw [nA_sg (i := 39) rfl]
    rw [pF_s0 (by rfl), Option.bind_some]
    rw [nA_sg (i := 40) rfl]
    rw [pF_s0 (by rfl), Option.bind_some]
    rw [gR_s0 (by rfl) (by rfl), Option.bind_some]
    rw [sI_sg (i := 7) (q := 0) rfl (by rfl) (by decide) (by decide), Option.bind_some]
    rw [gR_s0 (by rfl) (by rfl), Option.bind_some]
    rw [sI_sg (i := 9) (q := 0) rfl (by rfl) (by decide) (by decide), Option.bind_some]
    rw [gR_s0 (by rfl) (by rfl), Option.bind_some]
    rw [sI_sg (i := 8) (q := 0) rfl (by rfl) (by decide) (by decide), Option.bind_some]
    rw [gR_s0 (by rfl) (by rfl), Option.bind_some]
    rw [sI_sg (i := 7) (q := 1) rfl (by rfl) (by decide) (by decide), Option.bind_some]
    rw [gR_s0 (by rfl) (by rfl), Option.bind_some]
    rw [sI_sg (i := 9) (q := 1) rfl (by rfl) (by decide) (by decide), Option.bind_some]
    rw [gR_s0 (by rfl) (by rfl), Option.bind_some]
    rw [sI_sg (i := 8) (q := 1) rfl (by rfl) (by decide) (by decide), Option.bind_some]
    rw [gR_s0 (by rfl) (by rfl), Option.bind_some]
    rw [sI_sg (i := 7) (q := 2) rfl (by rfl) (by decide) (by decide), Option.bind_some]
    rw [gR_s0 (by rfl) (by rfl), Option.bind_some]
    rw [sI_sg (i := 9) (q := 2) rfl (by rfl) (by decide) (by decide), Option.bind_some]
    rw [gR_s0 (by rfl) (by rfl), Option.bind_some]
    rw [sI_sg (i := 8) (q := 2) rfl (by rfl) (by decide) (by decide), Option.bind_some]
    rw [gR_s0 (by rfl) (by rfl), Option.bind_some]
    rw [sI_sg (i := 7) (q := 3) rfl (by rfl) (by decide) (by decide), Option.bind_some]
    rw [gR_s0 (by rfl) (by rfl), Option.bind_some]
    rw [sI_sg (i := 9) (q := 3) rfl (by rfl) (by decide) (by decide), Option.bind_some]
    rw [gR_s0 (by rfl) (by rfl), Option.bind_some]
    rw [sI_sg (i := 8) (q := 3) rfl (by rfl) (by decide) (by decide), Option.bind_some]
  case refine_3 =>
    intro i hi
    match i, hi with
    | 0, _ => exact congrArg (fun v => some (Sum.inl (11, v))) (funext fun q => match q with | 0 => rfl | 1 => rfl | 2 => rfl | 3 => rfl | 4 => rfl | 5 => rfl | 6 => rfl | 7 => rfl | 8 => rfl | 9 => rfl | 10 => rfl | 11 => rfl | 12 => rfl | 13 => rfl | 14 => rfl | 15 => rfl | 16 => rfl | 17 => rfl | 18 => rfl | 19 => rfl | 20 => rfl | 21 => rfl | 22 => rfl | 23 => rfl | 24 => rfl | 25 => rfl | 26 => rfl | 27 => rfl | 28 => rfl | 29 => rfl | 30 => rfl | 31 => rfl | 32 => rfl | 33 => rfl | 34 => rfl | 35 => rfl | 36 => rfl | 37 => rfl | 38 => rfl | 39 => rfl | 40 => rfl | 41 => rfl | 42 => rfl | 43 => rfl | 44 => rfl | 45 => rfl | 46 => rfl | 47 => rfl | 48 => rfl | 49 => rfl | 50 => rfl | 51 => rfl | q + 52 => rfl)
    | 1, _ => rfl
    | 2, _ => rfl
    | 3, _ => rfl
    | 4, _ => rfl
    | 5, _ => rfl
    | 6, _ => rfl
    | 7, _ => rfl
    | 8, _ => rfl
    | 9, _ => rfl
    | 10, _ => rfl
    | 11, _ => rfl
    | 12, _ => rfl
    | 13, _ => rfl
    | 14, _ => rfl
    | 15, _ => rfl
    | 16, _ => rfl
    | 17, _ => rfl
    | 18, _ => rfl
    | 19, _ => rfl
    | 20, _ => rfl
    | 21, _ => rfl
    | 22, _ => rfl
    | 23, _ => rfl
    | 24, _ => rfl
    | 25, _ => rfl
    | 26, _ => rfl
    | 27, _ => rfl
    | 28, _ => rfl
    | 29, _ => rfl
    | 30, _ => rfl
    | 31, _ => rfl
    | 32, _ => rfl
    | 33, _ => rfl
    | 34, _ => rfl
    | 35, _ => rfl
    | 36, _ => rfl
    | 37, _ => rfl
    | 38, _ => rfl
    | 39, _ => rfl
    | 40, _ => rfl
    | i + 41, h => exact absurd h (by omega)
