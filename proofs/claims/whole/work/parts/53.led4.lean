/-! ===== shut, undo, isBooked ===== -/
def sn (f : Nat → Int32) (w : Int32) : Nat → Int32
  | 0 => 0
  | n + 1 => sn f w n + (if w < f n then 0 else 1)
theorem sn_c {f g : Nat → Int32} {w : Int32} {a : Nat} (h : ∀ i, i < a → f i = g i) : sn f w a = sn g w a := by
  induction a with
  | zero => rfl
  | succ a ih => unfold sn; rw [ih (fun i hi => h i (by omega)), h a (by omega)]
section LY
variable {mb ni c a n N : Nat} {sh : Int} {S : Nat → Nat} {A : AM} {W : WM} {K : KS} {M : MS} {σ : Sto}
theorem x_shutUpTo (hG : Gk ni A W) (h4 : K.1 17 0 4 = iI (c : Nat)) (hc : c ≤ 200) (hN : 300 ≤ N) {d : Int32} : f_X3_shutUpTo N (ovk A W K σ) (A 17 0) d = some (sn (K.1 21 0) d c, ovk A W (kI K 17 0 9 d) σ) := by
  unfold f_X3_shutUpTo b_X3_shutUpTo_9
  rw [xP_17_9 hG, Option.bind_some]
  obtain ⟨K1, hK⟩ : ∃ K1, K1 = kI K 17 0 9 d := ⟨_, rfl⟩
  have k4 : K1.1 17 0 4 = iI (c : Nat) := by rw [hK]; exact h4
  have k9 : K1.1 17 0 9 = d := by rw [hK]; exact kI_v.trans (if_pos ⟨rfl, rfl, rfl⟩)
  have k21 : K1.1 21 0 = K.1 21 0 := by rw [hK]; rfl
  rw [← hK, ← k21]
  refine lp_for (n := c) (st := fun k => (ovk A W K1 σ, A 17 0, sn (K1.1 21 0) d k, iI (k : Nat))) (fun k hk KK => ?_) (fun KK => ?_) N 0 (Nat.zero_le _) (by omega)
  · have i200 : inB (iI (k : Nat)) 200 = true := inN (by omega) (by decide)
    have k200 : (iI (k : Nat)).toNatClampNeg = k := clN (by omega)
    dsimp only
    unfold b_X3_shutUpTo_9_body
    rw [xI_17_4 hG, Option.bind_some, k4, if_neg (fun w => by rw [jI_le (by omega) (by omega)] at w; omega), xR_17_3 hG, Option.bind_some, xA_21 hG, i200, if_pos rfl, k200, Option.bind_some, xO_17 hG, Option.bind_some]
    unfold f_X3_isShut
    rw [xI_17_9 hG, Option.bind_some, k9]
    show _ = KK (ovk A W K1 σ, A 17 0, sn (K1.1 21 0) d k + (if d < K1.1 21 0 k then 0 else 1), iI ((k + 1 : Nat) : Int))
    by_cases h : d < K1.1 21 0 k
    · rw [if_pos h, if_pos h, Option.bind_some, if_pos rfl]
      unfold b_X3_shutUpTo_36
      dsimp only [lt_]
      rw [jI_s]
    · rw [if_neg h, if_neg h, Option.bind_some, if_neg (by decide)]
      unfold b_X3_shutUpTo_36
      dsimp only [lt_]
      rw [jI_s]
  · dsimp only
    unfold b_X3_shutUpTo_9_body
    rw [xI_17_4 hG, Option.bind_some, k4, if_pos (by rw [jI_le (by omega) (by omega)]; omega)]
theorem m_shutLoop (h4 : M.1 46 = iI (c : Nat)) (hc : c ≤ 200) (hN : 300 ≤ N) : b_X12_shut_47 N (ov mb M σ) mb 0 0 = some (sn (M.2.1 42) (M.1 47) c, ov mb M σ) := by
  unfold b_X12_shut_47
  refine lp_for (n := c) (st := fun k => (ov mb M σ, mb, sn (M.2.1 42) (M.1 47) k, iI (k : Nat))) (fun k hk KK => ?_) (fun KK => ?_) N 0 (Nat.zero_le _) (by omega)
  · have i200 : inB (iI (k : Nat)) 200 = true := inN (by omega) (by decide)
    have k200 : (iI (k : Nat)).toNatClampNeg = k := clN (by omega)
    dsimp only
    unfold b_X12_shut_47_body
    rw [oI_46, Option.bind_some, h4, if_neg (fun w => by rw [jI_le (by omega) (by omega)] at w; omega), oR_42, Option.bind_some, oA_42, i200, if_pos rfl, k200, Option.bind_some, oI_47, Option.bind_some]
    show _ = KK (ov mb M σ, mb, sn (M.2.1 42) (M.1 47) k + (if M.1 47 < M.2.1 42 k then 0 else 1), iI ((k + 1 : Nat) : Int))
    by_cases h : M.1 47 < M.2.1 42 k
    · rw [if_pos h, if_pos h]
      unfold b_X12_shut_74
      dsimp only [lt_]
      rw [jI_s]
    · rw [if_neg h, if_neg h]
      unfold b_X12_shut_74
      dsimp only [lt_]
      rw [jI_s]
  · dsimp only
    unfold b_X12_shut_47_body
    rw [oI_46, Option.bind_some, h4, if_pos (by rw [jI_le (by omega) (by omega)]; omega)]
end LY
theorem p_shut {xb mb ob N : Nat} (hN : 1000 ≤ N) : A_shut (I0 xb mb ob) N xb mb ob := by
  intro v1
  refine ag_in (fun n σ sz ni A W K M hn hA ho hC hR hF => ?_)
  subst hA
  have bb2 : ∀ {α β γ : Type} (x : α) (y : β) (f : α → β → Option γ), b2 (some (x, y)) f = f x y := fun _ _ _ => rfl
  obtain ⟨c, a, sh, S, hL, hle⟩ := hR.2.2.2.2.2.2.2.2
  have hL0 := hL
  obtain ⟨l1, l2, l3, l4, ⟨q1, q2, q3, q4, q5, q6⟩, l5, l6, l7, l8, l9, l10⟩ := hL
  have no : ∀ (ρ : Sto) (k : Nat), k ≠ 0 → k < 100 → b_X12_shut_30 N (ov mb M ρ) mb v1 (iI (k : Nat)) mb = some (0, ov mb (uI M 8 (iI (k : Nat))) ρ) := by
    intro ρ k h1 h2
    unfold b_X12_shut_30
    rw [ov_isO, Option.bind_some, m_fails h2, decide_eq_true (by omega)]
    rfl
  rcases ra_i (v := v1) 0 9999 (by decide) (by decide) (a' := 0) (b' := 9999) rfl rfl with ⟨d1, d2⟩ | ⟨d, rfl, -, hd, d1, d2⟩
  · refine ag_no (k := 1) (y := sz) rfl ho hC hR ?_ (by decide) (by decide) (fun ρ => ⟨uI M 8 1, 0, ?_, Sd.u8, u8_v⟩)
    · simp only [f_L_shut, f_X11_shut, hC.xo, Option.bind_some, d1, bs, b2]
      rfl
    · unfold f_X12_shut
      rw [d2, Option.bind_some, if_pos rfl]
      exact no ρ 1 (by decide) (by decide)
  have ns := x_notShut hC q5 l3 l4 (d := (d : Nat)) ⟨by omega, by omega⟩
  have lt_d : iI sh < iI (d : Nat) ↔ sh < d := iI_lt ⟨by omega, by omega⟩ ⟨by omega, by omega⟩
  by_cases hsh : sh < d
  case neg =>
    rw [if_neg hsh] at ns
    refine ag_no (k := 2) (y := sz) rfl ho hC hR ?_ (by decide) (by decide) (fun ρ => ⟨uI M 8 2, 0, ?_, Sd.u8, u8_v⟩)
    · simp only [f_L_shut, f_X11_shut, hC.xo, Option.bind_some, d1, ns, bs, b2]
      rfl
    · unfold f_X12_shut
      rw [d2, Option.bind_some, if_neg (by decide), oI_47, Option.bind_some, q6, if_neg (fun w => hsh (lt_d.mp w))]
      exact no ρ 2 (by decide) (by decide)
  rw [if_pos hsh] at ns
  obtain ⟨ans, hans⟩ : ∃ ans, ans = sn (K.1 21 0) (iI (d : Nat)) c := ⟨_, rfl⟩
  have key : f_X11_shut N (ovk A W K σ) (A 0 0) (iI (d : Nat)) = some (.inr ans, ovk A W (kI K 17 0 9 (iI (d : Nat))) σ) := by
    have ns' := ns
    have xo' := hC.xo
    rw [← hC.eqk] at ns' xo'
    unfold f_X11_shut
    rw [d1, Option.bind_some]
    dsimp only [bs]
    rw [xo', Option.bind_some, ns', Option.bind_some]
    dsimp only
    rw [xR_0_10 hC.1, Option.bind_some, xO_17 hC.1, Option.bind_some, x_shutUpTo hC.1 q1 l1 (by omega), bb2, hans]
  rw [hC.eqk] at key
  refine ag_ok (v := ans.toInt64) (y := sz) rfl ho ?_ (hC.cls (K' := kI K 17 0 9 (iI (d : Nat)))) (fun ρ => ⟨uI (uI M 8 0) 47 (iI (d : Nat)), ans, ?_, ?_, rfl, ?_⟩)
  · simp only [f_L_shut, hC.xo, Option.bind_some, key, bb2, bs]
  · unfold f_X12_shut
    rw [d2, Option.bind_some, if_neg (by decide), oI_47, Option.bind_some, q6, if_pos (lt_d.mpr hsh)]
    unfold b_X12_shut_30
    have m4 : (uI (uI M 8 0) 47 (iI (d : Nat))).1 46 = iI (c : Nat) := by rw [uI_v, if_neg (by decide)]; exact q2
    have m47 : (uI (uI M 8 0) 47 (iI (d : Nat))).1 47 = iI (d : Nat) := by rw [uI_v, if_pos rfl]
    rw [ov_isO, Option.bind_some, ff0, bb2, if_pos rfl, oP_47, Option.bind_some, m_shutLoop m4 l1 (by omega), m47, hans]
    have : sn (K.1 21 0) (iI (d : Nat)) c = sn ((uI (uI M 8 0) 47 (iI (d : Nat))).2.1 42) (iI (d : Nat)) c := by
      refine sn_c (fun i hi => ?_)
      obtain ⟨⟨x, y, d', g1, g2, g3, g4, g5, g6, g7, g8, g9⟩, -⟩ := l5 i hi
      rw [g8]
      exact g9.symm
    rw [this]
  · rw [uI_v, if_neg (by decide)]; exact u8_v
  · refine Rel.led (((hR.sd (Sd.u8 (v := 0))).up).vk (fun p u s h => hC.vcls h)) (KE.rf.kI (by decide) (by decide)) (ME.rf.uI (by decide)) ⟨c, a, (d : Int), S, ⟨l1, l2, by omega, by omega, ⟨q1, ?_, q3, ?_, ?_, ?_⟩, l5, l6, l7, l8, l9, l10⟩, hle⟩
    · rw [uI_v, if_neg (by decide)]; exact q2
    · rw [uI_v, if_neg (by decide)]; exact q4
    · rw [kI_v, if_pos ⟨rfl, rfl, rfl⟩]
    · rw [uI_v, if_pos rfl]
theorem p_undo {xb mb ob N : Nat} : A_undo (I0 xb mb ob) N xb mb ob := by
  refine ag_in (fun n σ sz ni A W K M hn hA ho hC hR hF => ?_)
  subst hA
  have bb2 : ∀ {α β γ : Type} (x : α) (y : β) (f : α → β → Option γ), b2 (some (x, y)) f = f x y := fun _ _ _ => rfl
  obtain ⟨c, a, sh, S, hL, hle⟩ := hR.2.2.2.2.2.2.2.2
  have hL0 := hL
  obtain ⟨l1, l2, l3, l4, ⟨q1, q2, q3, q4, q5, q6⟩, l5, l6, l7, l8, l9, l10⟩ := hL
  have hni := hR.2.2.2.2.2.1.1
  have no : ∀ (ρ : Sto) (k : Nat), k ≠ 0 → k < 100 → b_X12_undo_35 (ov mb M ρ) mb (iI (k : Nat)) mb = some (0, ov mb (uI M 8 (iI (k : Nat))) ρ) := by
    intro ρ k h1 h2
    unfold b_X12_undo_35
    rw [ov_isO, Option.bind_some, m_fails h2, decide_eq_true (by omega)]
    rfl
  cases a with
  | zero =>
    have q3' : K.1 17 0 8 = 0 := q3
    have q4' : M.1 51 = 0 := q4
    refine ag_no (k := 1) (y := sz) rfl ho hC hR ?_ (by decide) (by decide) (fun ρ => ⟨uI M 8 1, 0, ?_, Sd.u8, u8_v⟩)
    · have key : f_X11_undo (ovk A W K σ) (A 0 0) = some (.inl 2, ovk A W K σ) := by
        unfold f_X11_undo
        rw [xR_0_10 hC.1, Option.bind_some, xI_17_8 hC.1, Option.bind_some, q3', if_pos rfl]
      rw [hC.eqk] at key
      simp only [f_L_undo, hC.xo, Option.bind_some, key, bs, b2]
      rfl
    · unfold f_X12_undo
      rw [oI_51, Option.bind_some, q4', if_pos rfl]
      exact no ρ 1 (by decide) (by decide)
  | succ a =>
    have i220 : inB (iI (a : Nat)) 220 = true := inN (by omega) (by decide)
    have i600 : inB (iI (a : Nat)) 600 = true := inN (by omega) (by decide)
    have ka : (iI (a : Nat)).toNatClampNeg = a := clN (by omega)
    obtain ⟨⟨d, b, g1, g2, g3, g4, g5, g6, g7⟩, s1, s2, s3, s4⟩ := l6 a (by omega)
    have ns := x_notShut hC q5 l3 l4 (d := (d : Nat)) ⟨by omega, by omega⟩
    have lt_d : iI sh < iI (d : Nat) ↔ sh < d := iI_lt ⟨by omega, by omega⟩ ⟨by omega, by omega⟩
    have n0 : ¬ iI ((a + 1 : Nat) : Int) = 0 := fun w => by rw [iI_lit 0, jI_eq (by omega) (by omega)] at w; omega
    have n1 : ¬ iI ((a + 1 : Nat) : Int) ≤ 0 := fun w => by rw [iI_lit 0, jI_le (by omega) (by omega)] at w; omega
    have xd : f_X3_dayOfLatest (ovk A W K σ) (A 17 0) = some (iI (d : Nat)) := by
      unfold f_X3_dayOfLatest
      simp only [xI_17_8 hC.1, Option.bind_some, q3, if_neg n1, xR_17_5 hC.1, xA_22 hC.1, jI_p, i220, ka, if_true, g4]
    have mrun : ∀ ρ, f_X12_undo (ov mb M ρ) mb = if sh < d then b_X12_undo_35 (ov mb M ρ) mb 0 mb else b_X12_undo_35 (ov mb M ρ) mb 2 mb := by
      intro ρ
      unfold f_X12_undo
      simp only [oI_51, Option.bind_some, q4, if_neg n0, oR_49, oA_49, jI_p, i600, ka, if_true, g5, oI_47, q6, lt_d]
    by_cases hsh : sh < d
    case neg =>
      rw [if_neg hsh] at ns
      refine ag_no (k := 2) (y := sz) rfl ho hC hR ?_ (by decide) (by decide) (fun ρ => ⟨uI M 8 2, 0, ?_, Sd.u8, u8_v⟩)
      · have key : f_X11_undo (ovk A W K σ) (A 0 0) = some (.inl 5, ovk A W K σ) := by
          have ns' := ns
          have xo' := hC.xo
          rw [← hC.eqk] at ns' xo'
          unfold f_X11_undo
          rw [xR_0_10 hC.1, Option.bind_some, xI_17_8 hC.1, Option.bind_some, q3, if_neg n0, Option.bind_some, xO_17 hC.1, Option.bind_some, xd, Option.bind_some, xo', Option.bind_some, ns', Option.bind_some]
          rfl
        rw [hC.eqk] at key
        simp only [f_L_undo, hC.xo, Option.bind_some, key, bs, b2]
        rfl
      · rw [mrun, if_neg hsh]
        exact no ρ 2 (by decide) (by decide)
    rw [if_pos hsh] at ns
    obtain ⟨K', hK'⟩ : ∃ K', K' = kI (kI K 17 0 8 (iI (a : Nat))) 17 0 4 (iI (S a : Nat)) := ⟨_, rfl⟩
    obtain ⟨M1, hM1⟩ : ∃ M1, M1 = uI (uI (uI M 8 0) 51 (iI (a : Nat))) 46 (iI (S a : Nat)) := ⟨_, rfl⟩
    have key : f_X11_undo (ovk A W K σ) (A 0 0) = some (.inr (iI (S a : Nat)), ovk A W K' σ) := by
      have ns' := ns
      have xo' := hC.xo
      rw [← hC.eqk] at ns' xo'
      unfold f_X11_undo
      rw [xR_0_10 hC.1, Option.bind_some, xI_17_8 hC.1, Option.bind_some, q3, if_neg n0, Option.bind_some, xO_17 hC.1, Option.bind_some, xd, Option.bind_some, xo', Option.bind_some, ns', Option.bind_some]
      dsimp only [bs]
      rw [Option.bind_some, xO_17 hC.1, Option.bind_some]
      have xr : f_X3_dropLatest (ovk A W K σ) (A 17 0) = some (iI (S a : Nat), ovk A W K' σ) := by
        unfold f_X3_dropLatest
        have e8 : (kI K 17 0 8 (iI (a : Nat))).1 17 0 8 = iI (a : Nat) := kI_v.trans (if_pos ⟨rfl, rfl, rfl⟩)
        have e24 : (kI K 17 0 8 (iI (a : Nat))).1 24 0 a = iI (S a : Nat) := s1
        have e4 : (kI (kI K 17 0 8 (iI (a : Nat))) 17 0 4 (iI (S a : Nat))).1 17 0 4 = iI (S a : Nat) := kI_v.trans (if_pos ⟨rfl, rfl, rfl⟩)
        simp only [xI_17_8 hC.1, Option.bind_some, q3, if_neg n1, xP_17_8 hC.1, jI_p, xR_17_7 hC.1, xA_24 hC.1, e8, i220, ka, if_true, e24, xP_17_4 hC.1, xI_17_4 hC.1, e4, hK']
      rw [xr, bb2]
    rw [hC.eqk] at key
    have e51 : (uI (uI M 8 0) 51 (iI (a : Nat))).1 51 = iI (a : Nat) := uI_v.trans (if_pos rfl)
    have e51' : (uI M 8 0).1 51 = iI ((a + 1 : Nat) : Int) := by rw [uI_v, if_neg (by decide)]; exact q4
    have e48 : (uI (uI M 8 0) 51 (iI (a : Nat))).2.1 48 a = iI (S a : Nat) := s2
    have f51 : M1.1 51 = iI (a : Nat) := by rw [hM1, uI_v, if_neg (by decide), uI_v, if_pos rfl]
    have f46 : M1.1 46 = iI (S a : Nat) := by rw [hM1, uI_v, if_pos rfl]
    have f50 : M1.2.1 50 a = iI b := by rw [hM1]; exact g7
    have f8 : M1.1 8 = 0 := by rw [hM1, uI_v, if_neg (by decide), uI_v, if_neg (by decide)]; exact u8_v
    have b0 : iI b < 0 ↔ b < 0 := by rw [show (0 : Int32) = iI 0 from rfl, iI_lt ⟨by omega, by omega⟩ ⟨by decide, by decide⟩]
    have mgo : ∀ ρ, b_X12_undo_35 (ov mb M ρ) mb 0 mb = some (iI (S a : Nat), ov mb (if b < 0 then M1 else uA M1 26 b.toNat 0) ρ) := by
      intro ρ
      unfold b_X12_undo_35
      rw [ov_isO, Option.bind_some, ff0, bb2, if_pos rfl]
      simp only [oI_51, Option.bind_some, oP_51, e51', jI_p, oR_48, e51, oA_48, i600, ka, if_true, e48, oP_46, ← hM1, oR_50, f51, oA_50, f50, b0]
      by_cases hb : b < 0
      · rw [if_pos hb, if_pos hb, oI_46, Option.bind_some, f46]
      · rw [if_neg hb, if_neg hb]
        obtain ⟨bn, rfl⟩ : ∃ bn : Nat, b = bn := ⟨b.toNat, by omega⟩
        have i20 : inB (iI (bn : Nat)) 20 = true := inN (by omega) (by decide)
        have k20 : (iI (bn : Nat)).toNatClampNeg = bn := clN (by omega)
        have t : ((bn : Nat) : Int).toNat = bn := Int.toNat_natCast bn
        rw [oR_26, Option.bind_some, oS_26, i20, if_pos rfl, Option.bind_some, k20, oI_46, Option.bind_some, uA_o, f46, t]
        rfl
    have f50f : ∀ i, M1.2.1 50 i = M.2.1 50 i := fun i => by rw [hM1]; rfl
    have f26f : ∀ i, M1.2.1 26 i = M.2.1 26 i := fun i => by rw [hM1]; rfl
    have bks : bkN (M.2.1 50) (a + 1) = bkN (M.2.1 50) a + (if b = -1 then 0 else 1) := by
      show bkN (M.2.1 50) a + _ = _
      have eb : iI b = iI (-1) ↔ b = -1 := iI_eq ⟨by omega, by omega⟩ ⟨by omega, by omega⟩
      rw [g7]
      by_cases e : b = -1
      · rw [if_pos e, if_pos (eb.mpr e)]
      · rw [if_neg e, if_neg (fun w => e (eb.mp w))]
    refine ag_ok (v := (iI (S a : Nat)).toInt64) (y := sz) rfl ho ?_ (hC.cls (K' := K')) (fun ρ => ⟨if b < 0 then M1 else uA M1 26 b.toNat 0, iI (S a : Nat), ?_, ?_, rfl, ?_⟩)
    · simp only [f_L_undo, hC.xo, Option.bind_some, key, bb2, bs]
    · rw [mrun, if_pos hsh, mgo]
    · by_cases hb : b < 0
      · rw [if_pos hb]; exact f8
      · rw [if_neg hb]; exact f8
    · obtain ⟨M2, hM2⟩ : ∃ M2, M2 = if b < 0 then M1 else uA M1 26 b.toNat 0 := ⟨_, rfl⟩
      rw [← hM2]
      have hE : ME (uI M 8 0) M2 := by
        have h1 : ME (uI M 8 0) M1 := by rw [hM1]; exact (ME.rf.uI (by decide)).uI (by decide)
        rw [hM2]
        by_cases hb : b < 0
        · rw [if_pos hb]; exact h1
        · rw [if_neg hb]; exact h1.uA (by decide)
      have z1 : M2.1 = M1.1 ∧ M2.2.2 = M1.2.2 ∧ ∀ k, k ≠ 26 → M2.2.1 k = M1.2.1 k := by
        rw [hM2]
        by_cases hb : b < 0
        · rw [if_pos hb]; exact ⟨rfl, rfl, fun _ _ => rfl⟩
        · rw [if_neg hb]; refine ⟨rfl, rfl, fun k hk => ?_⟩
          funext i
          rw [uA_v, if_neg (fun w => hk w.1)]
      have z26 : ∀ i, M2.2.1 26 i = if 0 ≤ b ∧ i = b.toNat then 0 else M.2.1 26 i := by
        intro i
        rw [hM2]
        by_cases hb : b < 0
        · rw [if_pos hb, if_neg (by omega)]; exact f26f i
        · rw [if_neg hb, uA_v]
          by_cases hi : i = b.toNat
          · rw [if_pos ⟨rfl, hi⟩, if_pos ⟨by omega, hi⟩]
          · rw [if_neg (fun w => hi w.2), if_neg (fun w => hi w.2)]; exact f26f i
      have zA : ∀ k, k ≠ 26 → M2.2.1 k = M.2.1 k := fun k hk => by rw [z1.2.2 k hk, hM1]; rfl
      have zL : M2.2.2 = M.2.2 := by rw [z1.2.1, hM1]; rfl
      have kk1 : K'.1 17 0 9 = K.1 17 0 9 := by rw [hK']; rfl
      have fr : ∀ g, g ≠ 17 → K'.1 g = K.1 g := by
        intro g hg
        funext j k
        rw [hK', kI_v, if_neg (fun w => hg w.1), kI_v, if_neg (fun w => hg w.1)]
      have frL : K'.2 = K.2 := by rw [hK']; rfl
      refine Rel.led (((hR.sd (Sd.u8 (v := 0))).up).vk (fun p u s h => hC.vcls h)) (by rw [hK']; exact (KE.rf.kI (by decide) (by decide)).kI (by decide) (by decide)) hE ⟨S a, a, sh, S, ⟨by omega, by omega, l3, l4, ⟨?_, ?_, ?_, ?_, ?_, ?_⟩, ?_, ?_, ?_, ?_, ?_, ?_⟩, ?_⟩
      · rw [hK', kI_v, if_pos ⟨rfl, rfl, rfl⟩]
      · rw [z1.1]; exact f46
      · rw [hK', kI_v, if_neg (by decide), kI_v, if_pos ⟨rfl, rfl, rfl⟩]
      · rw [z1.1]; exact f51
      · rw [kk1]; exact q5
      · rw [z1.1, hM1]; exact q6
      · intro i hi
        rw [zA 42 (by decide), zA 43 (by decide), zA 44 (by decide), zL, fr 18 (by decide), fr 19 (by decide), fr 21 (by decide), frL]
        exact l5 i (by omega)
      · intro i hi
        rw [zA 48 (by decide), zA 49 (by decide), zA 50 (by decide), fr 22 (by decide), fr 23 (by decide), fr 24 (by decide)]
        obtain ⟨h1, h2, h3, h4, h5⟩ := l6 i (by omega)
        exact ⟨h1, h2, h3, l7 i a (by omega) (by omega), h5⟩
      · exact fun i j h1 h2 => l7 i j h1 (by omega)
      · rw [zA 50 (by decide)]
        exact fun i i' h1 h2 => l8 i i' (by omega) (by omega)
      · intro v hv
        rw [zA 50 (by decide), z26]
        have hold := l9 v hv
        have ebv : ∀ v : Nat, v < 20 → (iI b = iI (v : Nat) ↔ b = v) := fun v h => iI_eq ⟨by omega, by omega⟩ ⟨by omega, by omega⟩
        by_cases hvb : 0 ≤ b ∧ v = b.toNat
        · rw [if_pos hvb]
          refine ⟨Or.inl rfl, fun w => absurd w (by decide), fun ⟨i, h1, h2⟩ => ?_⟩
          have e : b = v := by omega
          rcases l8 i a (by omega) (by omega) (by rw [h2, g7, e]) with h | h
          · rw [h2] at h
            have := (iI_eq (a := (v : Int)) (b := -1) ⟨by omega, by omega⟩ ⟨by decide, by decide⟩).mp h
            omega
          · omega
        · rw [if_neg hvb]
          refine ⟨hold.1, hold.2.trans ⟨fun ⟨i, h1, h2⟩ => ?_, fun ⟨i, h1, h2⟩ => ⟨i, by omega, h2⟩⟩⟩
          by_cases e : i = a
          · subst e
            rw [g7] at h2
            have := (ebv v hv).mp h2
            omega
          · exact ⟨i, by omega, h2⟩
      · rw [zA 50 (by decide)]
        rw [bks] at l10
        by_cases hb : b < 0
        · have eb : b = -1 := by omega
          rw [if_pos eb] at l10
          rw [show bkN (M.2.1 50) a = flags (M.2.1 26) 20 from l10]
          exact flags_c (fun i _ => by rw [z26, if_neg (by omega)])
        · rw [if_neg (by omega)] at l10
          have fl : M.2.1 26 b.toNat = 1 := ((l9 b.toNat (by omega)).2).mpr ⟨a, by omega, by rw [g7]; exact congrArg iI (by omega)⟩
          have := flags_set (f := M2.2.1 26) (g := M.2.1 26) (n := 20) (v := b.toNat) (by omega) (by rw [z26, if_pos ⟨by omega, rfl⟩]; decide) fl (fun i hi => by rw [z26, if_neg (fun w => hi w.2)])
          omega
      · rw [zA 50 (by decide)]
        exact s4
