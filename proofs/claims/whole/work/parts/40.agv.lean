/-! from a call of the class and a call of the reference to agreement -/
def AgB {T : Type} (xb mb ob n : Nat) (cv : T → Int64) (Lw : Sto → Nat → Option (Int32 × Sto × Nat)) (Md : Sto → Option (T × Sto)) (σ : Sto) (sz : Nat) : Prop := ∃ k σ1 sz1 b σ2, Lw σ sz = some (k, σ1, sz1) ∧ isO σ1 mb 11 = some () ∧ Md σ1 = some (b, σ2) ∧ isO σ2 mb 11 = some () ∧ f_X12_thrown σ2 mb = some k ∧ (k = 0 → aL σ2 ob 2 0 = some (cv b)) ∧ I0 xb mb ob (n + 1) σ2
theorem ag_in {T : Type} {xb mb ob : Nat} {cv : T → Int64} {Lw : Sto → Nat → Option (Int32 × Sto × Nat)} {Md : Sto → Option (T × Sto)} (h : ∀ n σ sz ni A W K M, n < 512 → A 0 0 = xb → ob = mb + 41 → Cf mb ni A W K M σ → Rel n ni A K M σ → Fr σ sz → AgB xb mb ob n cv Lw Md σ sz) : Ag (I0 xb mb ob) mb ob cv Lw Md := by
  intro n σ sz hn hI hF
  obtain ⟨ni, A, W, K, M, hA, ho, hC, hR⟩ := hI
  exact h n σ sz ni A W K M hn hA ho hC hR hF
theorem ag_ok {T : Type} {xb mb ob n : Nat} {cv : T → Int64} {Lw : Sto → Nat → Option (Int32 × Sto × Nat)} {Md : Sto → Option (T × Sto)} {σ τ : Sto} {sz y ni : Nat} {A : AM} {W : WM} {K : KS} {M : MS} {v : Int64} (hA : A 0 0 = xb) (ho : ob = mb + 41) (hL : Lw σ sz = (sL τ ob 2 0 v).bind fun τ9 => some (0, τ9, y)) (hC : Cf mb ni A W K M τ) (hM : ∀ ρ, ∃ M' b, Md (ov mb M ρ) = some (b, ov mb M' ρ) ∧ M'.1 8 = 0 ∧ cv b = v ∧ Rel (n + 1) ni A K M' τ) : AgB xb mb ob n cv Lw Md σ sz := by
  subst ho
  obtain ⟨τ1, a1, a2, a3, a4⟩ := hC.out v
  have e := a2.eqm
  obtain ⟨M', b, m1, h8, hv, hR⟩ := hM τ1
  rw [e] at m1
  refine ⟨0, τ1, y, b, ov mb M' τ1, ?_, ?_, m1, ov_isO, ?_, fun _ => ?_, ⟨ni, A, W, K, M', hA, rfl, a2.ref, ?_⟩⟩
  · rw [hL, a1]; rfl
  · rw [← e]; exact ov_isO
  · unfold f_X12_thrown
    rw [oI_8, Option.bind_some, h8]
  · have : aL (ov mb M' τ1) (mb + 41) 2 0 = aL τ1 (mb + 41) 2 0 := by
      unfold aL aE
      rw [ov_hi (Or.inr (by omega))]
    rw [this, hv]
    exact a3
  · exact hR.vk (VK.tr (fun p u s h => h.of (a4 p (hC.val h).2.2)) (fun p u s h => a2.vref h))
theorem ag_ex {T : Type} {xb mb ob n : Nat} {cv : T → Int64} {Lw : Sto → Nat → Option (Int32 × Sto × Nat)} {Md : Sto → Option (T × Sto)} {σ τ : Sto} {sz y ni k : Nat} {A : AM} {W : WM} {K : KS} {M : MS} (hA : A 0 0 = xb) (ho : ob = mb + 41) (hL : Lw σ sz = some (iI (k : Nat), τ, y)) (hC : Cf mb ni A W K M τ) (hk : k ≠ 0) (hk2 : k < 100) (hM : ∀ ρ, ∃ M' b, Md (ov mb M ρ) = some (b, ov mb M' ρ) ∧ M'.1 8 = iI (k : Nat) ∧ Rel (n + 1) ni A K M' τ) : AgB xb mb ob n cv Lw Md σ sz := by
  subst ho
  have e := hC.eqm
  obtain ⟨M', b, m1, h8, hR⟩ := hM τ
  rw [e] at m1
  refine ⟨iI (k : Nat), τ, y, b, ov mb M' τ, hL, ?_, m1, ov_isO, ?_, fun w => ?_, ⟨ni, A, W, K, M', hA, rfl, hC.ref, ?_⟩⟩
  · rw [← e]; exact ov_isO
  · unfold f_X12_thrown
    rw [oI_8, Option.bind_some, h8]
  · rw [iI_lit 0, jI_eq (by omega) (by omega)] at w
    exact absurd w hk
  · exact hR.vk (fun p u s h => hC.vref h)
section AV
variable {mb ni n N : Nat} {A : AM} {W : WM} {K : KS} {M : MS} {σ τ : Sto} {sz : Nat}
theorem Cf.xo (h : Cf mb ni A W K M σ) : isO σ (A 0 0) 10 = some () := by
  have := xO_0 (K := K) (σ := σ) h.1
  rw [h.eqk] at this
  exact this
theorem x_checkShelf {k : Int} (hk : -2147483648 ≤ k ∧ k < 2147483648) : f_X11_checkShelf (iI k) = some (if 0 ≤ k ∧ k ≤ 11 then .inr () else .inl 0) := by
  unfold f_X11_checkShelf
  by_cases h1 : k < 0
  · rw [if_pos (by rw [iI_lit 0, iI_lt hk ⟨by decide, by decide⟩]; exact h1), if_neg (by omega)]
  rw [if_neg (fun w => h1 (by rw [iI_lit 0, iI_lt hk ⟨by decide, by decide⟩] at w; exact w))]
  by_cases h2 : k < 12
  · rw [if_pos (by rw [iI_lit 12, iI_lt hk ⟨by decide, by decide⟩]; exact h2), if_pos (by omega)]
  · rw [if_neg (fun w => h2 (by rw [iI_lit 12, iI_lt hk ⟨by decide, by decide⟩] at w; exact w)), if_neg (by omega)]
theorem x_shelfOk {k : Nat} (hk : k < 12) : f_X11_checkShelf (iI (k : Nat)) = some (.inr ()) := by
  rw [x_checkShelf ⟨by omega, by omega⟩, if_pos (by omega)]
theorem x_valueOn (hC : Cf mb ni A W K M σ) {k : Nat} (hk : k < 12) : f_X11_valueOn σ (A 0 0) (iI (k : Nat)) = oq (K.2.2.1 1 k) (some (.inl 2)) (fun p => some (.inr p)) := by
  have key : f_X11_valueOn (ovk A W K σ) (A 0 0) (iI (k : Nat)) = oq (K.2.2.1 1 k) (some (.inl 2)) (fun p => some (.inr p)) := by
    unfold f_X11_valueOn
    rw [xR_0_0 hC.1, Option.bind_some, xA_1 hC.1, if_pos (inN hk (by decide)), Option.bind_some, clN (by omega)]
    rfl
  rw [hC.eqk] at key
  exact key
theorem val_set (hC : Cf mb ni A W K M τ) {p t : Nat} {u s : Int} (hv : Val τ p u s) (hg : RgV u s) (ht : t < 12) (hR : Rel n ni A K M τ) : gR τ (A 0 0) 10 0 = some (A 1 0) ∧ ∃ K' τ', sQ τ (A 1 0) 4 (iI (t : Nat)) p = some τ' ∧ Cf mb ni A W K' M τ' ∧ Val τ' p u s ∧ ∀ M', Sd (lay M t u s) M' → Rel n ni A K' M' τ' := by
  have e := hC.eqk
  refine ⟨?_, kR K 1 t (some p), ovk A W (kR K 1 t (some p)) τ, ?_, hC.cls, hC.vcls hv, fun M' hs => Rel.sd ?_ hs⟩
  · have := xR_0_0 (K := K) (σ := τ) hC.1
    rw [e] at this
    exact this
  · have := xS_1 (K := K) (σ := τ) (i := iI (t : Nat)) (p := p) hC.1 (by rw [e]; exact hv.io)
    rw [e, if_pos (inN ht (by decide)), clN (by omega)] at this
    exact this
  · obtain ⟨a, b, c, d, f⟩ := hR
    refine ⟨?_, b, c, ?_, f⟩
    · intro k hk
      by_cases hkt : k = t
      · subst hkt
        refine Or.inr ⟨p, u, s, ?_, hC.vcls hv, hg, lay_MV⟩
        rw [kR_v, if_pos ⟨rfl, rfl⟩]
      · rcases a k hk with ⟨h1, h2⟩ | ⟨q, u', s', h1, h2, h3, h4⟩
        · refine Or.inl ⟨?_, ?_⟩
          · rw [kR_v, if_neg (fun w => hkt w.2)]; exact h1
          · rw [lay_a, if_neg (fun w => hkt w.2), if_neg (fun w => hkt w.2)]; exact h2
        · refine Or.inr ⟨q, u', s', ?_, hC.vcls h2, h3, ?_⟩
          · rw [kR_v, if_neg (fun w => hkt w.2)]; exact h1
          · obtain ⟨m1, m2, m3⟩ := h4
            refine ⟨?_, ?_, ?_⟩
            · rw [lay_a, if_neg (fun w => hkt w.2), if_neg (fun w => hkt w.2)]; exact m1
            · rw [lay_l, if_neg (fun w => hkt w.2)]; exact m2
            · rw [lay_a, if_neg (fun w => hkt w.2), if_neg (fun w => hkt w.2)]; exact m3
    · exact (show RR (kR K 1 t (some p)) (lay M t u s) τ from d).vk (fun p u s h => hC.vcls h)
/-- what a call of the class that lays a value comes to -/
def XR (r : Option (Int × Int)) (ans : Int → Int → Int32) (n mb ni : Nat) (A : AM) (W : WM) (K : KS) (M : MS) (t : Nat) (o : Option ((Nat ⊕ Int32) × Sto × Nat)) : Prop := (r = none ∧ ∃ τ y, o = some (.inl 3, τ, y) ∧ Cf mb ni A W K M τ ∧ Rel n ni A K M τ) ∨ ∃ u s K' τ' y, r = some (u, s) ∧ o = some (.inr (ans u s), τ', y) ∧ Cf mb ni A W K' M τ' ∧ ∀ M', Sd (lay M t u s) M' → Rel n ni A K' M' τ'
theorem vo_cf {r : Option (Int × Int)} {o : Option ((Nat ⊕ Nat) × Sto × Nat)} (hC : Cf mb ni A W K M σ) (hF : Fr σ sz) (hR : Rel n ni A K M σ) (h : VO r σ sz o) : ∃ τ y, Cf mb ni A W K M τ ∧ Rel n ni A K M τ ∧ ((r = none ∧ o = some (.inl 3, τ, y)) ∨ ∃ u s p, r = some (u, s) ∧ o = some (.inr p, τ, y) ∧ Val τ p u s) := by
  obtain ⟨τ, y, h1, h2, h3⟩ := h
  refine ⟨τ, y, hC.mk_ hF h1, hR.vk (fun p u s hv => hv.of (h1 p (hv.lt hF))), h3⟩
theorem vo_scale {r : Option (Int × Int)} {o : Option ((Nat ⊕ Nat) × Sto × Nat)} {t : Nat} (hC : Cf mb ni A W K M σ) (hF : Fr σ sz) (hR : Rel n ni A K M σ) (h : VO r σ sz o) (ht : t < 12) (hg : ∀ u s, r = some (u, s) → RgV u s) : XR r (fun _ s => iI s) n mb ni A W K M t (b3 o fun u τ y => bs u (fun j => some (.inl j, τ, y)) fun p => (gR τ (A 0 0) 10 0).bind fun q => (sQ τ q 4 (iI (t : Nat)) p).bind fun τ' => (gI τ' p 9 1).bind fun x => some (.inr x, τ', y)) := by
  obtain ⟨τ, y, c1, c2, c3⟩ := vo_cf hC hF hR h
  rcases c3 with ⟨h1, h2⟩ | ⟨u, s, p, h1, h2, h3⟩
  · exact Or.inl ⟨h1, τ, y, by rw [h2]; rfl, c1, c2⟩
  · obtain ⟨a1, K', τ', a2, a3, a4, a5⟩ := val_set c1 h3 (hg u s h1) ht c2
    refine Or.inr ⟨u, s, K', τ', y, h1, ?_, a3, a5⟩
    rw [h2]
    show (gR τ (A 0 0) 10 0).bind _ = _
    rw [a1, Option.bind_some, a2, Option.bind_some, a4.s]
    rfl
theorem vo_digits {r : Option (Int × Int)} {o : Option ((Nat ⊕ Nat) × Sto × Nat)} {t : Nat} (hC : Cf mb ni A W K M σ) (hF : Fr σ sz) (hR : Rel n ni A K M σ) (h : VO r σ sz o) (ht : t < 12) (hg : ∀ u s, r = some (u, s) → RgV u s) (hN : 30 ≤ N) : XR r (fun u _ => iI (dgN u.natAbs : Nat)) n mb ni A W K M t (b3 o fun u τ y => bs u (fun j => some (.inl j, τ, y)) fun p => (gR τ (A 0 0) 10 0).bind fun q => (sQ τ q 4 (iI (t : Nat)) p).bind fun τ' => (isO τ' p 9).bind fun _ => (f_X10_digits N τ' p).bind fun x => some (.inr x, τ', y)) := by
  obtain ⟨τ, y, c1, c2, c3⟩ := vo_cf hC hF hR h
  rcases c3 with ⟨h1, h2⟩ | ⟨u, s, p, h1, h2, h3⟩
  · exact Or.inl ⟨h1, τ, y, by rw [h2]; rfl, c1, c2⟩
  · obtain ⟨a1, K', τ', a2, a3, a4, a5⟩ := val_set c1 h3 (hg u s h1) ht c2
    refine Or.inr ⟨u, s, K', τ', y, h1, ?_, a3, a5⟩
    rw [h2]
    show (gR τ (A 0 0) 10 0).bind _ = _
    rw [a1, Option.bind_some, a2, Option.bind_some, a4.io, Option.bind_some, x_digits a4 (hg u s h1) hN]
    rfl
theorem chk_rg {u s u' s' : Int} (h : chk u s = some (u', s')) : RgV u' s' ∧ u' = u ∧ s' = s := by
  unfold chk at h
  by_cases hr : inR u s = true
  · rw [if_pos hr] at h
    have e1 : u = u' := congrArg Prod.fst (Option.some.inj h)
    have e2 : s = s' := congrArg Prod.snd (Option.some.inj h)
    subst e1
    subst e2
    unfold inR at hr
    have h4 := of_decide_eq_true hr
    exact ⟨h4, rfl, rfl⟩
  · rw [if_neg hr] at h
    cases h
theorem ag_val {r : Option (Int × Int)} {ans : Int → Int → Int32} {code t : Nat} {o : Option ((Nat ⊕ Int32) × Sto × Nat)} {xb ob : Nat} {Lw : Sto → Nat → Option (Int32 × Sto × Nat)} {Md : Sto → Option (Int32 × Sto)} {F : Nat → Sto → Nat → Option (Int32 × Sto × Nat)} (hA : A 0 0 = xb) (ho : ob = mb + 41) (hX : XR r ans n mb ni A W K M t o) (hc : code ≠ 0) (hc2 : code < 100) (hF : ∀ τ y, F 3 τ y = some (iI (code : Nat), τ, y)) (hL : Lw σ sz = b3 o fun u τ y => bs u (fun j => F j τ y) fun x => (sL τ ob 2 0 (Int32.toInt64 x)).bind fun τ9 => some (0, τ9, y)) (hM : ∀ ρ, MR r code ans mb M ρ t (Md (ov mb M ρ))) : AgB xb mb ob n (fun x : Int32 => x.toInt64) Lw Md σ sz := by
  rcases hX with ⟨h1, τ, y, h2, h3, h4⟩ | ⟨u, s, K', τ', y, h1, h2, h3, h4⟩
  · refine ag_ex (y := y) hA ho (hL.trans ?_) h3 hc hc2 (fun ρ => ?_)
    · rw [h2]
      exact hF τ y
    · rcases hM ρ with ⟨-, M', m1, m2, m3⟩ | ⟨u, s, M', m0, -⟩
      · exact ⟨M', 0, m1, m3, (h4.sd m2).up⟩
      · rw [h1] at m0; cases m0
  · refine ag_ok (v := (ans u s).toInt64) (y := y) hA ho (hL.trans ?_) h3 (fun ρ => ?_)
    · rw [h2]
      rfl
    · rcases hM ρ with ⟨m0, -⟩ | ⟨u2, s2, M', m0, m1, m2, m3⟩
      · rw [h1] at m0; cases m0
      · rw [h1] at m0
        have e1 : u = u2 := congrArg Prod.fst (Option.some.inj m0)
        have e2 : s = s2 := congrArg Prod.snd (Option.some.inj m0)
        subst e1
        subst e2
        exact ⟨M', _, m1, m3, rfl, (h4 M' m2).up⟩
/-- refused ahead of everything -/
theorem ag_no {T : Type} {xb ob y k : Nat} {cv : T → Int64} {Lw : Sto → Nat → Option (Int32 × Sto × Nat)} {Md : Sto → Option (T × Sto)} (hA : A 0 0 = xb) (ho : ob = mb + 41) (hC : Cf mb ni A W K M σ) (hR : Rel n ni A K M σ) (hL : Lw σ sz = some (iI (k : Nat), σ, y)) (hk : k ≠ 0) (hk2 : k < 100) (hM : ∀ ρ, ∃ M' b, Md (ov mb M ρ) = some (b, ov mb M' ρ) ∧ Sd M M' ∧ M'.1 8 = iI (k : Nat)) : AgB xb mb ob n cv Lw Md σ sz := by
  refine ag_ex hA ho hL hC hk hk2 (fun ρ => ?_)
  obtain ⟨M', b, m1, m2, m3⟩ := hM ρ
  exact ⟨M', b, m1, m3, (hR.sd m2).up⟩
end AV
/-! ===== put ===== -/
theorem MR_none {r : Option (Int × Int)} {code : Nat} {ans : Int → Int → Int32} {mb : Nat} {M M' : MS} {σ : Sto} {t : Nat} {o : Option (Int32 × Sto)} (h : r = none) (ho : o = some (0, ov mb M' σ)) (hs : Sd M M') (h8 : M'.1 8 = iI (code : Nat)) : MR r code ans mb M σ t o := Or.inl ⟨h, M', ho, hs, h8⟩
theorem p_put {xb mb ob N : Nat} (hN : 1000 ≤ N) : A_put (I0 xb mb ob) N xb mb ob := by
  intro v1 v2 v4
  refine ag_in (fun n σ sz ni A W K M hn hA ho hC hR hF => ?_)
  subst hA
  obtain ⟨k, k1, k2, rfl⟩ := iI_of v1
  obtain ⟨u, u1, u2, rfl⟩ := iL_of v2
  obtain ⟨s, s1, s2, rfl⟩ := iI_of v4
  have hk : -2147483648 ≤ k ∧ k < 2147483648 := ⟨k1, k2⟩
  have no : ∀ (ρ : Sto) (c : Nat), c ≠ 0 → c < 100 → ∃ M' b, b_X12_put_38 N (ov mb M ρ) mb (iI k) (iL u) (iI s) (iI (c : Nat)) mb = some (b, ov mb M' ρ) ∧ Sd M M' ∧ M'.1 8 = iI (c : Nat) := by
    intro ρ c h1 h2
    refine ⟨uI M 8 (iI (c : Nat)), 0, ?_, Sd.u8, u8_v⟩
    unfold b_X12_put_38
    rw [ov_isO, Option.bind_some, m_fails h2, decide_eq_true (by omega)]
    rfl
  by_cases c1 : 0 ≤ k ∧ k ≤ 11
  · obtain ⟨kn, rfl⟩ : ∃ kn : Nat, k = kn := ⟨k.toNat, by omega⟩
    have hkn : kn < 12 := by omega
    by_cases c2 : RgV u s
    · have hr : inR u s = true := decide_eq_true c2
      have hvo : VO (some (u, s)) σ sz (vQ (some (u, s)) σ sz) := VO.vQ (fun _ _ => rfl) (Nat.le_refl _)
      have hx := vo_digits (t := kn) (N := N) hC hF hR hvo hkn (fun u' s' e => by cases e; exact c2) (by omega)
      refine ag_val (code := 2) (F := fun j6 τ3 y4 => if j6 = 3 then some (2, τ3, y4) else if j6 = 0 then some (1, τ3, y4) else if j6 = 1 then some (2, τ3, y4) else none) rfl ho hx (by decide) (by decide) (fun τ y => rfl) ?_ (fun ρ => ?_)
      · have ex : f_X11_put N σ sz (A 0 0) (iI (kn : Nat)) (iL u) (iI s) = (b3 (vQ (some (u, s)) σ sz) fun u τ y => bs u (fun j => some (.inl j, τ, y)) fun p => (gR τ (A 0 0) 10 0).bind fun q => (sQ τ q 4 (iI (kn : Nat)) p).bind fun τ' => (isO τ' p 9).bind fun _ => (f_X10_digits N τ' p).bind fun x => some (.inr x, τ', y)) := by
          unfold f_X11_put
          rw [x_shelfOk hkn, Option.bind_some]
          dsimp only [bs]
          rw [x_isInRange ⟨u1, u2⟩ ⟨s1, s2⟩, hr, Option.bind_some, if_neg (by decide)]
          dsimp only [lt_]
          rw [x_newV]
          rfl
        show f_L_put N σ sz (A 0 0) (iI (kn : Nat)) (iL u) (iI s) ob = _
        unfold f_L_put
        rw [hC.xo, Option.bind_some, ← ex]
        rcases hx with ⟨h1, -⟩ | ⟨u', s', K', τ', y, h1, h2, -⟩
        · cases h1
        · rw [ex, h2]
          rfl
      · refine Or.inr ⟨u, s, lay (uI M 8 0) kn u s, rfl, ?_, lay_sd Sd.u8, u8_v (M := M) (v := 0)⟩
        · show f_X12_put N (ov mb M ρ) mb (iI (kn : Nat)) (iL u) (iI s) = _
          unfold f_X12_put
          rw [m_isShelf hk, decide_eq_true (by omega), Option.bind_some, if_neg (by decide), m_isScale ⟨s1, s2⟩, decide_eq_true (by exact ⟨c2.2.2.1, c2.2.2.2⟩), Option.bind_some, if_neg (by decide)]
          rw [show (-999999999999999999 : Int64) = iL (-999999999999999999) from rfl, show (999999999999999999 : Int64) = iL 999999999999999999 from rfl, m_in ⟨u1, u2⟩ ⟨by decide, by decide⟩ ⟨by decide, by decide⟩, decide_eq_true (by exact ⟨c2.1, c2.2.1⟩), Option.bind_some, if_neg (by decide)]
          unfold b_X12_put_38
          have f0 := m_fails (mb := mb) (M := M) (σ := ρ) (k := 0) (by decide)
          have f0' : f_X12_fails (ov mb M ρ) mb 0 = some (bI (decide (0 < 0)), ov mb (uI M 8 0) ρ) := f0
          rw [ov_isO, Option.bind_some, f0', decide_eq_false (by decide)]
          show (gR (ov mb (uI M 8 0) ρ) mb 11 3).bind _ = _
          simp only [oR_3, oS_3, oR_4, oS_4, oR_5, oS_5, Option.bind_some, inN hkn (show 12 ≤ 100000 by decide), clN (show kn ≤ 100000 by omega), if_true]
          rw [m_digitsOf ⟨by have := c2.1; omega, by have := c2.2.1; omega⟩ (by omega), Option.bind_some]
          rfl
    · have hr : inR u s = false := decide_eq_false c2
      refine ag_no (k := 2) (y := sz) rfl ho hC hR ?_ (by decide) (by decide) (fun ρ => ?_)
      · show f_L_put N σ sz (A 0 0) (iI (kn : Nat)) (iL u) (iI s) ob = _
        unfold f_L_put f_X11_put
        rw [hC.xo, Option.bind_some, x_shelfOk hkn, Option.bind_some]
        dsimp only [bs]
        rw [x_isInRange ⟨u1, u2⟩ ⟨s1, s2⟩, hr, Option.bind_some, if_pos (by decide)]
        rfl
      · obtain ⟨M', b, m1, m2, m3⟩ := no ρ 2 (by decide) (by decide)
        refine ⟨M', b, ?_, m2, m3⟩
        rw [← m1]
        show f_X12_put N (ov mb M ρ) mb (iI (kn : Nat)) (iL u) (iI s) = _
        unfold f_X12_put
        rw [m_isShelf hk, decide_eq_true (by omega), Option.bind_some, if_neg (by decide), m_isScale ⟨s1, s2⟩, Option.bind_some]
        by_cases c3 : -18 ≤ s ∧ s ≤ 36
        · rw [decide_eq_true c3, if_neg (by decide)]
          rw [show (-999999999999999999 : Int64) = iL (-999999999999999999) from rfl, show (999999999999999999 : Int64) = iL 999999999999999999 from rfl, m_in ⟨u1, u2⟩ ⟨by decide, by decide⟩ ⟨by decide, by decide⟩, decide_eq_false (fun w => c2 ⟨w.1, w.2, c3.1, c3.2⟩), Option.bind_some, if_pos (by decide)]
          rfl
        · rw [decide_eq_false c3, if_pos (by decide)]
          rfl
  · refine ag_no (k := 1) (y := sz) rfl ho hC hR ?_ (by decide) (by decide) (fun ρ => ?_)
    · show f_L_put N σ sz (A 0 0) (iI k) (iL u) (iI s) ob = _
      unfold f_L_put f_X11_put
      rw [hC.xo, Option.bind_some, x_checkShelf hk, if_neg c1, Option.bind_some]
      rfl
    · obtain ⟨M', b, m1, m2, m3⟩ := no ρ 1 (by decide) (by decide)
      refine ⟨M', b, ?_, m2, m3⟩
      rw [← m1]
      show f_X12_put N (ov mb M ρ) mb (iI k) (iL u) (iI s) = _
      unfold f_X12_put
      rw [m_isShelf hk, decide_eq_false c1, Option.bind_some, if_pos (by decide)]
      rfl
