/-! ===== the start: the constructors ===== -/
def stg (σ : Sto) (b : Nat) (F : Nat → Option Ent) : Sto := fun a => if b ≤ a then F (a - b) else σ a
theorem va_upup {α : Type} {F : Nat → α} {i : Nat} {x y : α} : va_up (va_up F i x) i y = va_up F i y := by
  funext z
  unfold va_up
  by_cases h : z = i
  · rw [if_pos h, if_pos h]
  · rw [if_neg h, if_neg h, if_neg h]
section SG
variable {σ : Sto} {b a i k n c : Nat} {F : Nat → Option Ent} {V : Nat → Value} {v : Value}
theorem stg_at (ha : a = b + i) : stg σ b F a = F i := by
  unfold stg
  rw [if_pos (by omega)]
  exact congrArg F (by omega)
theorem stg_lo (ha : a < b) : stg σ b F a = σ a := by
  unfold stg
  rw [if_neg (by omega)]
theorem stg_up {x : Option Ent} (ha : a = b + i) : va_up (stg σ b F) a x = stg σ b (va_up F i x) := by
  funext z
  by_cases h : z = a
  · subst h
    rw [va_up_self, stg_at ha, va_up_self]
  · rw [va_up_ne _ _ h]
    unfold stg
    by_cases hb : b ≤ z
    · rw [if_pos hb, if_pos hb, va_up_ne _ _ (by omega)]
    · rw [if_neg hb, if_neg hb]
theorem stg_id : stg σ b (fun i => σ (b + i)) = σ := by
  funext z
  unfold stg
  by_cases hb : b ≤ z
  · rw [if_pos hb]
    exact congrArg σ (by omega)
  · rw [if_neg hb]
theorem nA_sg {f : Cn} (ha : a = b + i) : nA (stg σ b F) a k n f = stg σ b (va_up F i (some (.inr (k, n, f)))) := stg_up ha
theorem nO_sg (ha : a = b + i) : nO (stg σ b F) a c V = stg σ b (va_up F i (some (.inl (c, V)))) := stg_up ha
theorem pF_sg (ha : a = b + i) (h : F i = some (.inl (c, V))) : pF (stg σ b F) a c k v = some (stg σ b (va_up F i (some (.inl (c, va_up V k v))))) := by
  unfold pF
  rw [stg_at ha, h]
  dsimp only
  rw [if_pos rfl, stg_up ha]
theorem gR_sg (ha : a = b + i) (h : F i = some (.inl (c, V))) (hv : V k = .ref n) : gR (stg σ b F) a c k = some n := by
  unfold gR oF
  rw [stg_at ha, h]
  dsimp only
  rw [if_pos rfl, hv]
theorem sQ_sg {t m p j q : Nat} {ix : Int32} {f : Nat → Option Nat} (ha : a = b + i) (h : F i = some (.inr (t, m, .inr (.inr f)))) (hp : p = b + j) (hq : F j = some (.inl (tgC t, V))) (hi : inB ix m = true) (hc : ix.toNatClampNeg = q) : sQ (stg σ b F) a t ix p = some (stg σ b (va_up F i (some (.inr (t, m, .inr (.inr (va_up f q (some p)))))))) := by
  have e : isO (stg σ b F) p (tgC t) = some () := by
    unfold isO
    rw [stg_at hp, hq]
    exact if_pos rfl
  unfold sQ
  rw [e]
  dsimp only
  unfold aE
  rw [stg_at ha, h]
  dsimp only
  rw [if_pos rfl]
  dsimp only
  rw [if_pos hi, stg_up ha, hc]
theorem sI_sg {t m q : Nat} {ix w : Int32} {f : Nat → Int32} (ha : a = b + i) (h : F i = some (.inr (t, m, .inl f))) (hi : inB ix m = true) (hc : ix.toNatClampNeg = q) : sI (stg σ b F) a t ix w = some (stg σ b (va_up F i (some (.inr (t, m, .inl (va_up f q w)))))) := by
  unfold sI aE
  rw [stg_at ha, h]
  dsimp only
  rw [if_pos rfl]
  dsimp only
  rw [if_pos hi, stg_up ha, hc]
end SG
theorem va_swap {α : Type} {F : Nat → α} {i j : Nat} {x y : α} (h : i ≠ j) : va_up (va_up F i x) j y = va_up (va_up F j y) i x := by
  funext z
  unfold va_up
  by_cases h1 : z = i
  · rw [if_neg (by omega), if_pos h1, if_pos h1]
  · by_cases h2 : z = j
    · rw [if_pos h2, if_neg h1, if_pos h2]
    · rw [if_neg h2, if_neg h1, if_neg h1, if_neg h2]
theorem st_X0 {σ : Sto} {b i s : Nat} {F : Nat → Option Ent} {V : Nat → Value} (hs : i < s) (h : F i = some (.inl (0, V))) : f_X0_init (stg σ b F) (b + i) = some ((), stg σ b (va_up F i (some (.inl (0, (va_up (va_up (va_up V 0 (.int 2)) 1 (.int 104)) 2 (.int 1))))))) := by
  unfold f_X0_init
  rw [pF_sg (i := i) rfl h, Option.bind_some]
  rw [pF_sg (i := i) rfl (va_up_self _ _ _), Option.bind_some, va_upup]
  rw [pF_sg (i := i) rfl (va_up_self _ _ _), Option.bind_some, va_upup]
theorem st_X3 {σ : Sto} {b i s : Nat} {F : Nat → Option Ent} {V : Nat → Value} (hs : i < s) (h : F i = some (.inl (3, V))) : f_X3_init (stg σ b F) (b + s) (b + i) = some ((), stg σ b (va_up (va_up (va_up (va_up (va_up (va_up (va_up (va_up F s (some (.inr (1, 200, z1)))) (s + 1) (some (.inr (1, 200, z1)))) (s + 2) (some (.inr (2, 200, z2)))) (s + 3) (some (.inr (1, 200, z1)))) (s + 4) (some (.inr (1, 220, z1)))) (s + 5) (some (.inr (1, 220, z1)))) (s + 6) (some (.inr (1, 220, z1)))) i (some (.inl (3, (va_up (va_up (va_up (va_up (va_up (va_up (va_up (va_up (va_up (va_up V 0 (.ref (b + s))) 1 (.ref (b + s + 1))) 2 (.ref (b + s + 2))) 3 (.ref (b + s + 3))) 4 (.int 0)) 5 (.ref (b + s + 4))) 6 (.ref (b + s + 5))) 7 (.ref (b + s + 6))) 8 (.int 0)) 9 (.int (-1))))))), b + s + 7) := by
  unfold f_X3_init
  dsimp only [lt_]
  rw [nA_sg (i := s) rfl]
  rw [pF_sg (i := i) rfl (show va_up F s _ i = some (.inl (3, V)) from (va_up_ne _ _ (by omega)).trans h), Option.bind_some]
  rw [nA_sg (i := s + 1) (Nat.add_assoc _ _ _)]
  rw [va_swap (i := i) (j := s + 1) (by omega)]
  rw [pF_sg (i := i) rfl (va_up_self _ _ _), Option.bind_some, va_upup]
  rw [nA_sg (i := s + 2) (Nat.add_assoc _ _ _)]
  rw [va_swap (i := i) (j := s + 2) (by omega)]
  rw [pF_sg (i := i) rfl (va_up_self _ _ _), Option.bind_some, va_upup]
  rw [nA_sg (i := s + 3) (Nat.add_assoc _ _ _)]
  rw [va_swap (i := i) (j := s + 3) (by omega)]
  rw [pF_sg (i := i) rfl (va_up_self _ _ _), Option.bind_some, va_upup]
  rw [pF_sg (i := i) rfl (va_up_self _ _ _), Option.bind_some, va_upup]
  rw [nA_sg (i := s + 4) (Nat.add_assoc _ _ _)]
  rw [va_swap (i := i) (j := s + 4) (by omega)]
  rw [pF_sg (i := i) rfl (va_up_self _ _ _), Option.bind_some, va_upup]
  rw [nA_sg (i := s + 5) (Nat.add_assoc _ _ _)]
  rw [va_swap (i := i) (j := s + 5) (by omega)]
  rw [pF_sg (i := i) rfl (va_up_self _ _ _), Option.bind_some, va_upup]
  rw [nA_sg (i := s + 6) (Nat.add_assoc _ _ _)]
  rw [va_swap (i := i) (j := s + 6) (by omega)]
  rw [pF_sg (i := i) rfl (va_up_self _ _ _), Option.bind_some, va_upup]
  rw [pF_sg (i := i) rfl (va_up_self _ _ _), Option.bind_some, va_upup]
  rw [pF_sg (i := i) rfl (va_up_self _ _ _), Option.bind_some, va_upup]
theorem st_X4 {σ : Sto} {b i s : Nat} {F : Nat → Option Ent} {V : Nat → Value} (hs : i < s) (h : F i = some (.inl (4, V))) : f_X4_init (stg σ b F) (b + s) (b + i) = some ((), stg σ b (va_up (va_up (va_up (va_up F s (some (.inr (2, 120, z2)))) (s + 1) (some (.inr (2, 120, z2)))) (s + 2) (some (.inr (2, 120, z2)))) i (some (.inl (4, (va_up (va_up (va_up (va_up (va_up V 0 (.ref (b + s))) 1 (.ref (b + s + 1))) 2 (.ref (b + s + 2))) 3 (.int 0)) 4 (.long 0)))))), b + s + 3) := by
  unfold f_X4_init
  dsimp only [lt_]
  rw [nA_sg (i := s) rfl]
  rw [pF_sg (i := i) rfl (show va_up F s _ i = some (.inl (4, V)) from (va_up_ne _ _ (by omega)).trans h), Option.bind_some]
  rw [nA_sg (i := s + 1) (Nat.add_assoc _ _ _)]
  rw [va_swap (i := i) (j := s + 1) (by omega)]
  rw [pF_sg (i := i) rfl (va_up_self _ _ _), Option.bind_some, va_upup]
  rw [nA_sg (i := s + 2) (Nat.add_assoc _ _ _)]
  rw [va_swap (i := i) (j := s + 2) (by omega)]
  rw [pF_sg (i := i) rfl (va_up_self _ _ _), Option.bind_some, va_upup]
  rw [pF_sg (i := i) rfl (va_up_self _ _ _), Option.bind_some, va_upup]
  rw [pF_sg (i := i) rfl (va_up_self _ _ _), Option.bind_some, va_upup]
theorem st_X7 {σ : Sto} {b i s : Nat} {F : Nat → Option Ent} {V : Nat → Value} (hs : i < s) (h : F i = some (.inl (6, V))) : f_X7_init (stg σ b F) (b + s) (b + i) = some ((), stg σ b (va_up (va_up (va_up (va_up F s (some (.inr (1, 12, z1)))) (s + 1) (some (.inr (2, 12, z2)))) (s + 2) (some (.inr (2, 12, z2)))) i (some (.inl (6, (va_up (va_up (va_up (va_up (va_up (va_up V 0 (.ref (b + s))) 1 (.int 0)) 2 (.ref (b + s + 1))) 3 (.int 0)) 4 (.ref (b + s + 2))) 5 (.long 0)))))), b + s + 3) := by
  unfold f_X7_init
  dsimp only [lt_]
  rw [nA_sg (i := s) rfl]
  rw [pF_sg (i := i) rfl (show va_up F s _ i = some (.inl (6, V)) from (va_up_ne _ _ (by omega)).trans h), Option.bind_some]
  rw [pF_sg (i := i) rfl (va_up_self _ _ _), Option.bind_some, va_upup]
  rw [nA_sg (i := s + 1) (Nat.add_assoc _ _ _)]
  rw [va_swap (i := i) (j := s + 1) (by omega)]
  rw [pF_sg (i := i) rfl (va_up_self _ _ _), Option.bind_some, va_upup]
  rw [pF_sg (i := i) rfl (va_up_self _ _ _), Option.bind_some, va_upup]
  rw [nA_sg (i := s + 2) (Nat.add_assoc _ _ _)]
  rw [va_swap (i := i) (j := s + 2) (by omega)]
  rw [pF_sg (i := i) rfl (va_up_self _ _ _), Option.bind_some, va_upup]
  rw [pF_sg (i := i) rfl (va_up_self _ _ _), Option.bind_some, va_upup]
theorem st_X8 {σ : Sto} {b i s : Nat} {F : Nat → Option Ent} {V : Nat → Value} (hs : i < s) (h : F i = some (.inl (7, V))) : f_X8_init (stg σ b F) (b + s) (b + i) = some ((), stg σ b (va_up (va_up (va_up F s (some (.inr (1, 4, z1)))) (s + 1) (some (.inr (1, 4, z1)))) i (some (.inl (7, (va_up (va_up (va_up V 0 (.ref (b + s))) 1 (.ref (b + s + 1))) 2 (.int 0)))))), b + s + 2) := by
  unfold f_X8_init
  dsimp only [lt_]
  rw [nA_sg (i := s) rfl]
  rw [pF_sg (i := i) rfl (show va_up F s _ i = some (.inl (7, V)) from (va_up_ne _ _ (by omega)).trans h), Option.bind_some]
  rw [nA_sg (i := s + 1) (Nat.add_assoc _ _ _)]
  rw [va_swap (i := i) (j := s + 1) (by omega)]
  rw [pF_sg (i := i) rfl (va_up_self _ _ _), Option.bind_some, va_upup]
  rw [pF_sg (i := i) rfl (va_up_self _ _ _), Option.bind_some, va_upup]
theorem st_X9 {σ : Sto} {b i s : Nat} {F : Nat → Option Ent} {V : Nat → Value} (hs : i < s) (h : F i = some (.inl (8, V))) : f_X9_init (stg σ b F) (b + s) (b + i) = some ((), stg σ b (va_up (va_up F s (some (.inr (0, 24, z1)))) i (some (.inl (8, (va_up (va_up V 0 (.ref (b + s))) 1 (.int 0)))))), b + s + 1) := by
  unfold f_X9_init
  dsimp only [lt_]
  rw [nA_sg (i := s) rfl]
  rw [pF_sg (i := i) rfl (show va_up F s _ i = some (.inl (8, V)) from (va_up_ne _ _ (by omega)).trans h), Option.bind_some]
  rw [pF_sg (i := i) rfl (va_up_self _ _ _), Option.bind_some, va_upup]
theorem pF_s0 {σ : Sto} {b k c : Nat} {F : Nat → Option Ent} {V : Nat → Value} {v : Value} (h : F 0 = some (.inl (c, V))) : pF (stg σ b F) b c k v = some (stg σ b (va_up F 0 (some (.inl (c, va_up V k v))))) := pF_sg rfl h
theorem gR_s0 {σ : Sto} {b k c n : Nat} {F : Nat → Option Ent} {V : Nat → Value} (h : F 0 = some (.inl (c, V))) (hv : V k = .ref n) : gR (stg σ b F) b c k = some n := gR_sg rfl h hv
theorem nO_s0 {σ : Sto} {b c : Nat} {F : Nat → Option Ent} {V : Nat → Value} : nO (stg σ b F) b c V = stg σ b (va_up F 0 (some (.inl (c, V)))) := nO_sg rfl
