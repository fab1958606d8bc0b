/-! ===== the start: the class's cells ===== -/
theorem bb2x {α β γ : Type} (x : α) (y : β) (f : α → β → Option γ) : b2 (some (x, y)) f = f x y := rfl
def offs (g j : Nat) : Nat := if g = 25 then 25 + j else if g = 26 then 29 + 3 * j else if g = 27 then 30 + 3 * j else if g = 28 then 31 + 3 * j else g
def A0 (b0 : Nat) : AM := fun g j => b0 + offs g j
def wi (i : Nat) : Nat × Nat := if i < 25 then (i, 0) else if i < 29 then (25, i - 25) else (26 + (i - 29) % 3, (i - 29) / 3)
def W0 (b0 : Nat) : WM := fun a => if b0 ≤ a ∧ a < b0 + 65 then some (wi (a - b0)) else none
def K0 : KS := (fun g _ k => if g = 25 then (if k = 0 then 2 else if k = 1 then 104 else if k = 2 then 1 else 0) else if g = 17 then (if k = 9 then -1 else 0) else 0, fun _ _ _ => 0, fun _ _ => none, fun _ _ => 4)
set_option maxHeartbeats 4000000 in
set_option maxRecDepth 100000 in
theorem st_X11 (b0 : Nat) : ∃ F, f_X11_init (nO (fun _ => none) b0 10 dvX11) (b0 + 1) b0 = some ((), stg (fun _ => none) b0 F, b0 + 65) ∧ ∀ i, i < 65 → F i = some (kEnt (A0 b0) K0 (wi i).1 (wi i).2) := by
  refine ⟨?_, ?_, ?_⟩
  case refine_2 =>
    have e0 : nO (fun _ => none) b0 10 dvX11 = stg (fun _ => none) b0 (va_up (fun _ => none) 0 (some (.inl (10, dvX11)))) := by
      rw [← nO_s0 (F := fun _ => none)]
      exact congrArg (fun s => nO s b0 10 dvX11) (stg_id (σ := fun _ => none)).symm
    rw [e0]
    unfold f_X11_init
    dsimp only [lt_]
    rw [nA_sg (i := 1) rfl]
    rw [pF_s0 (by rfl), Option.bind_some]
    rw [nO_sg (i := 2) rfl]
    rw [st_X9 (i := 2) (s := 3) (by decide) (by rfl), bb3]
    rw [pF_s0 (by rfl), Option.bind_some]
    rw [nA_sg (i := 4) rfl]
    rw [pF_s0 (by rfl), Option.bind_some]
    rw [nA_sg (i := 5) rfl]
    rw [pF_s0 (by rfl), Option.bind_some]
    rw [nA_sg (i := 6) rfl]
    rw [pF_s0 (by rfl), Option.bind_some]
    rw [nA_sg (i := 7) rfl]
    rw [pF_s0 (by rfl), Option.bind_some]
    rw [nA_sg (i := 8) rfl]
    rw [pF_s0 (by rfl), Option.bind_some]
    rw [pF_s0 (by rfl), Option.bind_some]
    rw [nO_sg (i := 9) rfl]
    rw [st_X7 (i := 9) (s := 10) (by decide) (by rfl), bb3]
    rw [pF_s0 (by rfl), Option.bind_some]
    rw [nO_sg (i := 13) rfl]
    rw [st_X4 (i := 13) (s := 14) (by decide) (by rfl), bb3]
    rw [pF_s0 (by rfl), Option.bind_some]
    rw [nO_sg (i := 17) rfl]
    rw [st_X3 (i := 17) (s := 18) (by decide) (by rfl), bb3]
    rw [pF_s0 (by rfl), Option.bind_some]
    rw [gR_s0 (by rfl) (by rfl), Option.bind_some]
    rw [nO_sg (i := 25) rfl]
    rw [st_X0 (i := 25) (s := 26) (by decide) (by rfl), bb2x]
    rw [sQ_sg (i := 4) (j := 25) (q := 0) rfl (by rfl) rfl (by rfl) (by decide) (by decide), Option.bind_some]
    rw [gR_s0 (by rfl) (by rfl), Option.bind_some]
    rw [nO_sg (i := 26) rfl]
    rw [st_X0 (i := 26) (s := 27) (by decide) (by rfl), bb2x]
    rw [sQ_sg (i := 4) (j := 26) (q := 1) rfl (by rfl) rfl (by rfl) (by decide) (by decide), Option.bind_some]
    rw [gR_s0 (by rfl) (by rfl), Option.bind_some]
    rw [nO_sg (i := 27) rfl]
    rw [st_X0 (i := 27) (s := 28) (by decide) (by rfl), bb2x]
    rw [sQ_sg (i := 4) (j := 27) (q := 2) rfl (by rfl) rfl (by rfl) (by decide) (by decide), Option.bind_some]
    rw [gR_s0 (by rfl) (by rfl), Option.bind_some]
    rw [nO_sg (i := 28) rfl]
    rw [st_X0 (i := 28) (s := 29) (by decide) (by rfl), bb2x]
    rw [sQ_sg (i := 4) (j := 28) (q := 3) rfl (by rfl) rfl (by rfl) (by decide) (by decide), Option.bind_some]
    rw [gR_s0 (by rfl) (by rfl), Option.bind_some]
    rw [nO_sg (i := 29) rfl]
    rw [st_X8 (i := 29) (s := 30) (by decide) (by rfl), bb3]
    rw [sQ_sg (i := 6) (j := 29) (q := 0) rfl (by rfl) rfl (by rfl) (by decide) (by decide), Option.bind_some]
    rw [gR_s0 (by rfl) (by rfl), Option.bind_some]
    rw [nO_sg (i := 32) rfl]
    rw [st_X8 (i := 32) (s := 33) (by decide) (by rfl), bb3]
    rw [sQ_sg (i := 7) (j := 32) (q := 0) rfl (by rfl) rfl (by rfl) (by decide) (by decide), Option.bind_some]
    rw [gR_s0 (by rfl) (by rfl), Option.bind_some]
    rw [nO_sg (i := 35) rfl]
    rw [st_X8 (i := 35) (s := 36) (by decide) (by rfl), bb3]
    rw [sQ_sg (i := 6) (j := 35) (q := 1) rfl (by rfl) rfl (by rfl) (by decide) (by decide), Option.bind_some]
    rw [gR_s0 (by rfl) (by rfl), Option.bind_some]
    rw [nO_sg (i := 38) rfl]
    rw [st_X8 (i := 38) (s := 39) (by decide) (by rfl), bb3]
    rw [sQ_sg (i := 7) (j := 38) (q := 1) rfl (by rfl) rfl (by rfl) (by decide) (by decide), Option.bind_some]
    rw [gR_s0 (by rfl) (by rfl), Option.bind_some]
    rw [nO_sg (i := 41) rfl]
    rw [st_X8 (i := 41) (s := 42) (by decide) (by rfl), bb3]
    rw [sQ_sg (i := 6) (j := 41) (q := 2) rfl (by rfl) rfl (by rfl) (by decide) (by decide), Option.bind_some]
    rw [gR_s0 (by rfl) (by rfl), Option.bind_some]
    rw [nO_sg (i := 44) rfl]
    rw [st_X8 (i := 44) (s := 45) (by decide) (by rfl), bb3]
    rw [sQ_sg (i := 7) (j := 44) (q := 2) rfl (by rfl) rfl (by rfl) (by decide) (by decide), Option.bind_some]
    rw [gR_s0 (by rfl) (by rfl), Option.bind_some]
    rw [nO_sg (i := 47) rfl]
    rw [st_X8 (i := 47) (s := 48) (by decide) (by rfl), bb3]
    rw [sQ_sg (i := 6) (j := 47) (q := 3) rfl (by rfl) rfl (by rfl) (by decide) (by decide), Option.bind_some]
    rw [gR_s0 (by rfl) (by rfl), Option.bind_some]
    rw [nO_sg (i := 50) rfl]
    rw [st_X8 (i := 50) (s := 51) (by decide) (by rfl), bb3]
    rw [sQ_sg (i := 7) (j := 50) (q := 3) rfl (by rfl) rfl (by rfl) (by decide) (by decide), Option.bind_some]
    rw [gR_s0 (by rfl) (by rfl), Option.bind_some]
    rw [nO_sg (i := 53) rfl]
    rw [st_X8 (i := 53) (s := 54) (by decide) (by rfl), bb3]
    rw [sQ_sg (i := 6) (j := 53) (q := 4) rfl (by rfl) rfl (by rfl) (by decide) (by decide), Option.bind_some]
    rw [gR_s0 (by rfl) (by rfl), Option.bind_some]
    rw [nO_sg (i := 56) rfl]
    rw [st_X8 (i := 56) (s := 57) (by decide) (by rfl), bb3]
    rw [sQ_sg (i := 7) (j := 56) (q := 4) rfl (by rfl) rfl (by rfl) (by decide) (by decide), Option.bind_some]
    rw [gR_s0 (by rfl) (by rfl), Option.bind_some]
    rw [nO_sg (i := 59) rfl]
    rw [st_X8 (i := 59) (s := 60) (by decide) (by rfl), bb3]
    rw [sQ_sg (i := 6) (j := 59) (q := 5) rfl (by rfl) rfl (by rfl) (by decide) (by decide), Option.bind_some]
    rw [gR_s0 (by rfl) (by rfl), Option.bind_some]
    rw [nO_sg (i := 62) rfl]
    rw [st_X8 (i := 62) (s := 63) (by decide) (by rfl), bb3]
    rw [sQ_sg (i := 7) (j := 62) (q := 5) rfl (by rfl) rfl (by rfl) (by decide) (by decide), Option.bind_some]
  case refine_3 =>
    intro i hi
    match i, hi with
    | 0, _ => exact congrArg (fun v => some (Sum.inl (10, v))) (funext fun q => match q with | 0 => rfl | 1 => rfl | 2 => rfl | 3 => rfl | 4 => rfl | 5 => rfl | 6 => rfl | 7 => rfl | 8 => rfl | 9 => rfl | 10 => rfl | q + 11 => rfl)
    | 1, _ => rfl
    | 2, _ => exact congrArg (fun v => some (Sum.inl (8, v))) (funext fun q => match q with | 0 => rfl | 1 => rfl | q + 2 => rfl)
    | 3, _ => rfl
    | 4, _ => exact congrArg (fun v => some (Sum.inr (5, 4, Sum.inr (Sum.inr v)))) (funext fun q => match q with | 0 => rfl | 1 => rfl | 2 => rfl | 3 => rfl | q + 4 => rfl)
    | 5, _ => rfl
    | 6, _ => exact congrArg (fun v => some (Sum.inr (6, 6, Sum.inr (Sum.inr v)))) (funext fun q => match q with | 0 => rfl | 1 => rfl | 2 => rfl | 3 => rfl | 4 => rfl | 5 => rfl | q + 6 => rfl)
    | 7, _ => exact congrArg (fun v => some (Sum.inr (6, 6, Sum.inr (Sum.inr v)))) (funext fun q => match q with | 0 => rfl | 1 => rfl | 2 => rfl | 3 => rfl | 4 => rfl | 5 => rfl | q + 6 => rfl)
    | 8, _ => rfl
    | 9, _ => exact congrArg (fun v => some (Sum.inl (6, v))) (funext fun q => match q with | 0 => rfl | 1 => rfl | 2 => rfl | 3 => rfl | 4 => rfl | 5 => rfl | q + 6 => rfl)
    | 10, _ => rfl
    | 11, _ => rfl
    | 12, _ => rfl
    | 13, _ => exact congrArg (fun v => some (Sum.inl (4, v))) (funext fun q => match q with | 0 => rfl | 1 => rfl | 2 => rfl | 3 => rfl | 4 => rfl | q + 5 => rfl)
    | 14, _ => rfl
    | 15, _ => rfl
    | 16, _ => rfl
    | 17, _ => exact congrArg (fun v => some (Sum.inl (3, v))) (funext fun q => match q with | 0 => rfl | 1 => rfl | 2 => rfl | 3 => rfl | 4 => rfl | 5 => rfl | 6 => rfl | 7 => rfl | 8 => rfl | 9 => rfl | q + 10 => rfl)
    | 18, _ => rfl
    | 19, _ => rfl
    | 20, _ => rfl
    | 21, _ => rfl
    | 22, _ => rfl
    | 23, _ => rfl
    | 24, _ => rfl
    | 25, _ => exact congrArg (fun v => some (Sum.inl (0, v))) (funext fun q => match q with | 0 => rfl | 1 => rfl | 2 => rfl | q + 3 => rfl)
    | 26, _ => exact congrArg (fun v => some (Sum.inl (0, v))) (funext fun q => match q with | 0 => rfl | 1 => rfl | 2 => rfl | q + 3 => rfl)
    | 27, _ => exact congrArg (fun v => some (Sum.inl (0, v))) (funext fun q => match q with | 0 => rfl | 1 => rfl | 2 => rfl | q + 3 => rfl)
    | 28, _ => exact congrArg (fun v => some (Sum.inl (0, v))) (funext fun q => match q with | 0 => rfl | 1 => rfl | 2 => rfl | q + 3 => rfl)
    | 29, _ => exact congrArg (fun v => some (Sum.inl (7, v))) (funext fun q => match q with | 0 => rfl | 1 => rfl | 2 => rfl | q + 3 => rfl)
    | 30, _ => rfl
    | 31, _ => rfl
    | 32, _ => exact congrArg (fun v => some (Sum.inl (7, v))) (funext fun q => match q with | 0 => rfl | 1 => rfl | 2 => rfl | q + 3 => rfl)
    | 33, _ => rfl
    | 34, _ => rfl
    | 35, _ => exact congrArg (fun v => some (Sum.inl (7, v))) (funext fun q => match q with | 0 => rfl | 1 => rfl | 2 => rfl | q + 3 => rfl)
    | 36, _ => rfl
    | 37, _ => rfl
    | 38, _ => exact congrArg (fun v => some (Sum.inl (7, v))) (funext fun q => match q with | 0 => rfl | 1 => rfl | 2 => rfl | q + 3 => rfl)
    | 39, _ => rfl
    | 40, _ => rfl
    | 41, _ => exact congrArg (fun v => some (Sum.inl (7, v))) (funext fun q => match q with | 0 => rfl | 1 => rfl | 2 => rfl | q + 3 => rfl)
    | 42, _ => rfl
    | 43, _ => rfl
    | 44, _ => exact congrArg (fun v => some (Sum.inl (7, v))) (funext fun q => match q with | 0 => rfl | 1 => rfl | 2 => rfl | q + 3 => rfl)
    | 45, _ => rfl
    | 46, _ => rfl
    | 47, _ => exact congrArg (fun v => some (Sum.inl (7, v))) (funext fun q => match q with | 0 => rfl | 1 => rfl | 2 => rfl | q + 3 => rfl)
    | 48, _ => rfl
    | 49, _ => rfl
    | 50, _ => exact congrArg (fun v => some (Sum.inl (7, v))) (funext fun q => match q with | 0 => rfl | 1 => rfl | 2 => rfl | q + 3 => rfl)
    | 51, _ => rfl
    | 52, _ => rfl
    | 53, _ => exact congrArg (fun v => some (Sum.inl (7, v))) (funext fun q => match q with | 0 => rfl | 1 => rfl | 2 => rfl | q + 3 => rfl)
    | 54, _ => rfl
    | 55, _ => rfl
    | 56, _ => exact congrArg (fun v => some (Sum.inl (7, v))) (funext fun q => match q with | 0 => rfl | 1 => rfl | 2 => rfl | q + 3 => rfl)
    | 57, _ => rfl
    | 58, _ => rfl
    | 59, _ => exact congrArg (fun v => some (Sum.inl (7, v))) (funext fun q => match q with | 0 => rfl | 1 => rfl | 2 => rfl | q + 3 => rfl)
    | 60, _ => rfl
    | 61, _ => rfl
    | 62, _ => exact congrArg (fun v => some (Sum.inl (7, v))) (funext fun q => match q with | 0 => rfl | 1 => rfl | 2 => rfl | q + 3 => rfl)
    | 63, _ => rfl
    | 64, _ => rfl
    | i + 65, h => exact absurd h (by omega)
