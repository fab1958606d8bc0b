/-! ===== join, turn ===== -/
def isJ (a : Int32) : Bool := decide (a = 43 ∨ a = 45 ∨ a = 42 ∨ a = 103 ∨ a = 108)
/-- what comes of two values -/
def spJ (a : Int32) (u s u' s' : Int) : Option (Int × Int) :=
  if a = 42 then chk (u * u') (s + s') else if a = 43 then chk (al u s (mxI s s') + al u' s' (mxI s s')) (mxI s s') else if a = 45 then chk (al u s (mxI s s') - al u' s' (mxI s s')) (mxI s s') else
  if a = 103 then (if cmpI (al u s (mxI s s')) (al u' s' (mxI s s')) < 0 then some (u', s') else some (u, s)) else (if 0 < cmpI (al u s (mxI s s')) (al u' s' (mxI s s')) then some (u', s') else some (u, s))
theorem spJ_rg {a : Int32} {u s u' s' x y : Int} (hg : RgV u s) (hg' : RgV u' s') (h : spJ a u s u' s' = some (x, y)) : RgV x y := by
  unfold spJ at h
  by_cases h1 : a = 42
  · rw [if_pos h1] at h; exact (chk_rg h).1
  rw [if_neg h1] at h
  by_cases h2 : a = 43
  · rw [if_pos h2] at h; exact (chk_rg h).1
  rw [if_neg h2] at h
  by_cases h3 : a = 45
  · rw [if_pos h3] at h; exact (chk_rg h).1
  rw [if_neg h3] at h
  by_cases h4 : a = 103
  · rw [if_pos h4] at h
    by_cases h5 : cmpI (al u s (mxI s s')) (al u' s' (mxI s s')) < 0
    · rw [if_pos h5] at h; cases h; exact hg'
    · rw [if_neg h5] at h; cases h; exact hg
  · rw [if_neg h4] at h
    by_cases h5 : 0 < cmpI (al u s (mxI s s')) (al u' s' (mxI s s'))
    · rw [if_pos h5] at h; cases h; exact hg'
    · rw [if_neg h5] at h; cases h; exact hg
theorem x_joined {σ : Sto} {sz p q N : Nat} {u s u' s' : Int} {a : Int32} (h : Val σ p u s) (h' : Val σ q u' s') (hr : RgV u s) (hr' : RgV u' s') (hN : 30 ≤ N) : VO (spJ a u s u' s') σ sz (f_X11_joined N σ sz p q a) := by
  have cv := cmpI_v (al u s (mxI s s')) (al u' s' (mxI s s'))
  have keep : ∀ {x y : Int} {p : Nat}, Val σ p x y → VO (some (x, y)) σ sz (some (.inr p, σ, sz)) := fun {x y p} hv => ⟨σ, sz, fun _ _ => rfl, Nat.le_refl _, Or.inr ⟨x, y, p, rfl, rfl, hv⟩⟩
  unfold f_X11_joined spJ
  by_cases h1 : a = 42
  · rw [if_pos h1, if_pos h1, h.io, Option.bind_some, x_times h h' hr hr', vQ_id]
    exact VO.vQ (fun _ _ => rfl) (Nat.le_refl _)
  rw [if_neg h1, if_neg h1]
  by_cases h2 : a = 43
  · rw [if_pos h2, if_pos h2, h.io, Option.bind_some, x_plus h h' hr hr', vQ_id]
    exact VO.vQ (fun _ _ => rfl) (Nat.le_refl _)
  rw [if_neg h2, if_neg h2]
  by_cases h3 : a = 45
  · rw [if_pos h3, if_pos h3, h.io, Option.bind_some, x_minus h h' hr hr', vQ_id]
    exact VO.vQ (fun _ _ => rfl) (Nat.le_refl _)
  rw [if_neg h3, if_neg h3]
  by_cases h4 : a = 103
  · rw [if_pos h4, if_pos h4, h.io, Option.bind_some, x_order h h' hr hr' hN, Option.bind_some]
    dsimp only [bs]
    by_cases h5 : cmpI (al u s (mxI s s')) (al u' s' (mxI s s')) < 0
    · rw [if_pos h5, if_pos (show iI (cmpI (al u s (mxI s s')) (al u' s' (mxI s s'))) < 0 by rw [iI_lit 0, iI_lt ⟨by omega, by omega⟩ ⟨by decide, by decide⟩]; exact h5)]
      exact keep h'
    · rw [if_neg h5, if_neg (show ¬ iI (cmpI (al u s (mxI s s')) (al u' s' (mxI s s'))) < 0 from fun w => h5 (by rw [iI_lit 0, iI_lt ⟨by omega, by omega⟩ ⟨by decide, by decide⟩] at w; exact w))]
      exact keep h
  · rw [if_neg h4, if_neg h4, h.io, Option.bind_some, x_order h h' hr hr' hN, Option.bind_some]
    dsimp only [bs]
    by_cases h5 : 0 < cmpI (al u s (mxI s s')) (al u' s' (mxI s s'))
    · rw [if_pos h5, if_pos (show 0 < iI (cmpI (al u s (mxI s s')) (al u' s' (mxI s s'))) by rw [iI_lit 0, iI_lt ⟨by decide, by decide⟩ ⟨by omega, by omega⟩]; exact h5)]
      exact keep h'
    · rw [if_neg h5, if_neg (show ¬ 0 < iI (cmpI (al u s (mxI s s')) (al u' s' (mxI s s'))) from fun w => h5 (by rw [iI_lit 0, iI_lt ⟨by decide, by decide⟩ ⟨by omega, by omega⟩] at w; exact w))]
      exact keep h
theorem p_join {xb mb ob N : Nat} (hN : 1000 ≤ N) : A_join (I0 xb mb ob) N xb mb ob := by
  intro v1 v2 a v4
  refine ag_in (fun n σ sz ni A W K M hn hA ho hC hR hF => ?_)
  subst hA
  have no : ∀ (ρ : Sto) (c : Nat) (v1 v2 v3 v4 : Int32), c ≠ 0 → c < 100 → b_X12_join_85 N (ov mb M ρ) mb v1 v2 v3 v4 (iI (c : Nat)) mb = some (0, ov mb (uI M 8 (iI (c : Nat))) ρ) := by
    intro ρ c v1 v2 v3 v4 h1 h2
    unfold b_X12_join_85
    rw [ov_isO, Option.bind_some, m_fails h2, decide_eq_true (by omega)]
    rfl
  have n1 := fun ρ v1 v2 v3 v4 => no ρ 1 v1 v2 v3 v4 (by decide) (by decide)
  have n2 := fun ρ v1 v2 v3 v4 => no ρ 2 v1 v2 v3 v4 (by decide) (by decide)
  have n3 := fun ρ v1 v2 v3 v4 => no ρ 3 v1 v2 v3 v4 (by decide) (by decide)
  have jM : ∀ (ρ : Sto) (v1 v2 v4 : Int32), f_X12_join N (ov mb M ρ) mb v1 v2 a v4 = b_X12_join_35 N (ov mb M ρ) mb v1 v2 a v4 (bI (isJ a)) := by
    intro ρ v1 v2 v4
    unfold f_X12_join b_X12_join_30 isJ
    by_cases c1 : a = 43
    · rw [if_pos c1, decide_eq_true (Or.inl c1)]; rfl
    rw [if_neg c1]
    by_cases c2 : a = 45
    · rw [if_pos c2, decide_eq_true (by simp [c2])]; rfl
    rw [if_neg c2]
    by_cases c3 : a = 42
    · rw [if_pos c3, decide_eq_true (by simp [c3])]; rfl
    rw [if_neg c3]
    by_cases c4 : a = 103
    · rw [if_pos c4, decide_eq_true (by simp [c4])]; rfl
    rw [if_neg c4]
    by_cases c5 : a = 108
    · rw [if_pos c5, decide_eq_true (by simp [c5])]; rfl
    rw [if_neg c5, decide_eq_false (by simp [c1, c2, c3, c4, c5])]; rfl
  have jX : ∀ (v1 v2 v4 : Int32), f_X11_checkShelf v1 = some (.inr ()) → f_X11_checkShelf v2 = some (.inr ()) → f_X11_checkShelf v4 = some (.inr ()) → f_X11_join N σ sz (A 0 0) v1 v2 a v4 = if isJ a = true then b_X11_join_53 N σ sz (A 0 0) v1 v2 a v4 else some (.inl 1, σ, sz) := by
    intro v1 v2 v4 h1 h2 h3
    unfold f_X11_join isJ
    simp only [h1, h2, h3, Option.bind_some, bs]
    by_cases c1 : a = 43
    · rw [if_pos c1, if_pos (decide_eq_true (Or.inl c1))]
    rw [if_neg c1]
    by_cases c2 : a = 45
    · rw [if_pos c2, if_pos (decide_eq_true (by simp [c2]))]
    rw [if_neg c2]
    by_cases c3 : a = 42
    · rw [if_pos c3, if_pos (decide_eq_true (by simp [c3]))]
    rw [if_neg c3]
    by_cases c4 : a = 103
    · rw [if_pos c4, if_pos (decide_eq_true (by simp [c4]))]
    rw [if_neg c4]
    by_cases c5 : a = 108
    · rw [if_pos c5, if_pos (decide_eq_true (by simp [c5]))]
    rw [if_neg c5, if_neg (fun w => by have := of_decide_eq_true w; simp [c1, c2, c3, c4, c5] at this)]
  have shv : ∀ v : Int32, ∃ a, f_X12_isShelf v = some a := by
    intro v
    obtain ⟨z, z1, z2, rfl⟩ := iI_of v
    exact ⟨_, m_isShelf ⟨z1, z2⟩⟩
  obtain ⟨a2, ha2⟩ := shv v2
  obtain ⟨a4, ha4⟩ := shv v4
  rcases sh_cases (v := v1) hR.1 with ⟨k, rfl, hk, c1⟩ | ⟨k, rfl, hk, ha⟩
  · have np := m_noPair (a0 := mb) (m_shN hk c1) ha2 ha4
    refine ag_no (k := 1) (y := sz) rfl ho hC hR ?_ (by decide) (by decide) (fun ρ => ⟨uI M 8 1, 0, ?_, Sd.u8, u8_v⟩)
    · simp only [f_L_join, f_X11_join, hC.xo, Option.bind_some, x_shN hk c1, bs, b3]
      rfl
    · simp only [jM, b_X12_join_35, ov_isO, Option.bind_some, np, if_true]
      exact n1 ρ _ _ _ _
  rcases sh_cases (v := v2) hR.1 with ⟨k', rfl, hk', c1⟩ | ⟨k', rfl, hk', ha'⟩
  · have np := m_noPair (a0 := mb) (m_shY hk) (m_shN hk' c1) ha4
    refine ag_no (k := 1) (y := sz) rfl ho hC hR ?_ (by decide) (by decide) (fun ρ => ⟨uI M 8 1, 0, ?_, Sd.u8, u8_v⟩)
    · simp only [f_L_join, f_X11_join, hC.xo, Option.bind_some, x_shelfOk hk, x_shN hk' c1, bs, b3]
      rfl
    · simp only [jM, b_X12_join_35, ov_isO, Option.bind_some, np, if_true]
      exact n1 ρ _ _ _ _
  rcases sh_cases (v := v4) hR.1 with ⟨t, rfl, ht, c1⟩ | ⟨t, rfl, ht, -⟩
  · have np := m_noPair (a0 := mb) (m_shY hk) (m_shY hk') (m_shN ht c1)
    refine ag_no (k := 1) (y := sz) rfl ho hC hR ?_ (by decide) (by decide) (fun ρ => ⟨uI M 8 1, 0, ?_, Sd.u8, u8_v⟩)
    · simp only [f_L_join, f_X11_join, hC.xo, Option.bind_some, x_shelfOk hk, x_shelfOk hk', x_shN ht c1, bs, b3]
      rfl
    · simp only [jM, b_X12_join_35, ov_isO, Option.bind_some, np, if_true]
      exact n1 ρ _ _ _ _
  have np : f_X12_noPair mb (iI (k : Nat)) (iI (k' : Nat)) (iI (t : Nat)) = some 0 := m_noPair (a0 := mb) (m_shY hk) (m_shY hk') (m_shY ht)
  by_cases hj : isJ a = true
  case neg =>
    have hj1 : isJ a = false := by cases h : isJ a <;> simp_all
    refine ag_no (k := 2) (y := sz) rfl ho hC hR ?_ (by decide) (by decide) (fun ρ => ⟨uI M 8 2, 0, ?_, Sd.u8, u8_v⟩)
    · simp only [f_L_join, hC.xo, Option.bind_some, jX _ _ _ (x_shelfOk hk) (x_shelfOk hk') (x_shelfOk ht), if_neg hj, bs, b3]
      rfl
    · simp only [jM, b_X12_join_35, ov_isO, Option.bind_some, np, hj1]
      exact n2 ρ _ _ _ _
  rcases ha with ⟨e1, e2⟩ | ⟨p, u, s, e1, hv, hg, hm⟩
  · refine ag_no (k := 3) (y := sz) rfl ho hC hR ?_ (by decide) (by decide) (fun ρ => ⟨uI M 8 3, 0, ?_, Sd.u8, u8_v⟩)
    · simp only [f_L_join, hC.xo, Option.bind_some, jX _ _ _ (x_shelfOk hk) (x_shelfOk hk') (x_shelfOk ht), if_pos hj, b_X11_join_53, x_valueOn hC hk, e1, oq, bs, b3]
      rfl
    · simp only [jM, b_X12_join_35, ov_isO, Option.bind_some, np, hj, oR_5, oA_5, in12 hk, cl12 hk, e2, if_true]
      exact n3 ρ _ _ _ _
  rcases ha' with ⟨e1', e2'⟩ | ⟨p', u', s', e1', hv', hg', hm'⟩
  · refine ag_no (k := 3) (y := sz) rfl ho hC hR ?_ (by decide) (by decide) (fun ρ => ⟨uI M 8 3, 0, ?_, Sd.u8, u8_v⟩)
    · simp only [f_L_join, hC.xo, Option.bind_some, jX _ _ _ (x_shelfOk hk) (x_shelfOk hk') (x_shelfOk ht), if_pos hj, b_X11_join_53, x_valueOn hC hk, x_valueOn hC hk', e1, e1', oq, bs, b3]
      rfl
    · simp only [jM, b_X12_join_35, ov_isO, Option.bind_some, np, hj, oR_5, oA_5, in12 hk, cl12 hk, in12 hk', cl12 hk', hm.1, e2', if_true]
      exact n3 ρ _ _ _ _
  have hvo : VO (spJ a u s u' s') σ sz (f_X11_joined N σ sz p p' a) := x_joined hv hv' hg hg' (by omega)
  have hx := vo_scale (t := t) hC hF hR hvo ht (fun x y e => spJ_rg hg hg' e)
  refine ag_val (code := 4) (F := fun j6 τ3 y4 => if j6 = 0 then some (1, τ3, y4) else if j6 = 1 then some (2, τ3, y4) else if j6 = 2 then some (3, τ3, y4) else if j6 = 3 then some (4, τ3, y4) else none) rfl ho hx (by decide) (by decide) (fun τ y => rfl) ?_ (fun ρ => ?_)
  · simp only [f_L_join, hC.xo, Option.bind_some, jX _ _ _ (x_shelfOk hk) (x_shelfOk hk') (x_shelfOk ht), if_pos hj, b_X11_join_53, x_valueOn hC hk, x_valueOn hC hk', e1, e1', oq, bs]
  · have m8 : MV (uI M 8 0) k u s := hm
    have m8' : MV (uI M 8 0) k' u' s' := hm'
    simp only [jM, b_X12_join_35, ov_isO, Option.bind_some, np, hj, oR_5, oA_5, in12 hk, cl12 hk, in12 hk', cl12 hk', hm.1, hm'.1, if_true]
    show MR _ 4 _ mb M ρ t (b_X12_join_85 N (ov mb M ρ) mb (iI (k : Nat)) (iI (k' : Nat)) a (iI (t : Nat)) 0 mb)
    have fin : ∀ (r : Option (Int × Int)) (M1 : MS), Sc (uI M 8 0) M1 → MR r 4 (fun _ s => iI s) mb M ρ t (b2 (mL mb M1 ρ t r) fun x τ => b_X12_join_224 N τ mb (iI (t : Nat)) x) := by
      intro r M1 hs
      refine MR_end (code := 4) (E := fun c τ => b_X12_join_235 N τ mb (iI (t : Nat)) c mb) (by decide) (by decide) (Sd.u8.tr hs.sd) ?_ ?_
      · intro c M3 hc
        subst hc
        unfold b_X12_join_235
        simp only [ov_isO, Option.bind_some, m_fails (show 4 < 100 by decide), b2]
        rfl
      · intro u' s' M3 hr hm3
        unfold b_X12_join_235
        simp only [ov_isO, Option.bind_some, ff0, b2, if_true, oR_4, oA_4, in12 ht, cl12 ht, hm3.u8.2.2]
    have cv := cmpI_v (al u s (mxI s s')) (al u' s' (mxI s s'))
    have bb2 : ∀ {α β γ : Type} (x : α) (y : β) (f : α → β → Option γ), b2 (some (x, y)) f = f x y := fun _ _ _ => rfl
    unfold b_X12_join_85 spJ
    rw [ov_isO, Option.bind_some, ff0, bb2, if_pos rfl]
    by_cases h1 : a = 42
    · rw [if_pos h1, if_pos h1]
      obtain ⟨M1, a1, a2⟩ := m_multiplies (mb := mb) (M := uI M 8 0) (σ := ρ) (N := N) hk hk' ht m8 m8' hg hg' (by omega)
      rw [ov_isO, Option.bind_some, a1]
      exact fin _ M1 a2
    rw [if_neg h1, if_neg h1]
    by_cases h2 : a = 43
    · rw [if_pos h2, if_pos h2]
      obtain ⟨M1, a1, a2⟩ := m_sums (mb := mb) (M := uI M 8 0) (σ := ρ) (tb := false) (N := N) hk hk' ht m8 m8' hg hg' (by omega)
      have a3 : f_X12_sums N (ov mb (uI M 8 0) ρ) mb (iI (k : Nat)) (iI (k' : Nat)) 0 (iI (t : Nat)) = mL mb M1 ρ t (chk (al u s (mxI s s') + al u' s' (mxI s s')) (mxI s s')) := a1
      rw [ov_isO, Option.bind_some, a3]
      exact fin _ M1 a2
    rw [if_neg h2, if_neg h2]
    by_cases h3 : a = 45
    · rw [if_pos h3, if_pos h3]
      obtain ⟨M1, a1, a2⟩ := m_sums (mb := mb) (M := uI M 8 0) (σ := ρ) (tb := true) (N := N) hk hk' ht m8 m8' hg hg' (by omega)
      have a3 : f_X12_sums N (ov mb (uI M 8 0) ρ) mb (iI (k : Nat)) (iI (k' : Nat)) 1 (iI (t : Nat)) = mL mb M1 ρ t (chk (al u s (mxI s s') - al u' s' (mxI s s')) (mxI s s')) := a1
      rw [ov_isO, Option.bind_some, a3]
      exact fin _ M1 a2
    rw [if_neg h3, if_neg h3]
    obtain ⟨M1, a1, a2⟩ := m_order (mb := mb) (M := uI M 8 0) (σ := ρ) (N := N) hk hk' m8 m8' hg hg' (by omega)
    have hm1 := m8.sc a2
    have hm1' := m8'.sc a2
    obtain ⟨M2, c1, c2⟩ := m_takes (mb := mb) (M := M1) (σ := ρ) (t := t) (N := N) hk ht hm1 hg (by omega)
    obtain ⟨M3, d1, d2⟩ := m_takes (mb := mb) (M := M1) (σ := ρ) (t := t) (N := N) hk' ht hm1' hg' (by omega)
    by_cases h4 : a = 103
    · rw [if_pos h4, if_pos h4, ov_isO, Option.bind_some, a1, bb2]
      unfold b_X12_join_192
      by_cases h5 : cmpI (al u s (mxI s s')) (al u' s' (mxI s s')) < 0
      · rw [if_pos h5, if_pos (show iI (cmpI (al u s (mxI s s')) (al u' s' (mxI s s'))) < 0 by rw [iI_lit 0, iI_lt ⟨by omega, by omega⟩ ⟨by decide, by decide⟩]; exact h5), ov_isO, Option.bind_some, d1]
        exact fin _ M3 (a2.tr d2)
      · rw [if_neg h5, if_neg (show ¬ iI (cmpI (al u s (mxI s s')) (al u' s' (mxI s s'))) < 0 from fun w => h5 (by rw [iI_lit 0, iI_lt ⟨by omega, by omega⟩ ⟨by decide, by decide⟩] at w; exact w)), ov_isO, Option.bind_some, c1]
        exact fin _ M2 (a2.tr c2)
    · rw [if_neg h4, if_neg h4, ov_isO, Option.bind_some, a1, bb2]
      unfold b_X12_join_217
      by_cases h5 : 0 < cmpI (al u s (mxI s s')) (al u' s' (mxI s s'))
      · rw [if_pos h5, if_pos (show 0 < iI (cmpI (al u s (mxI s s')) (al u' s' (mxI s s'))) by rw [iI_lit 0, iI_lt ⟨by decide, by decide⟩ ⟨by omega, by omega⟩]; exact h5), ov_isO, Option.bind_some, d1]
        exact fin _ M3 (a2.tr d2)
      · rw [if_neg h5, if_neg (show ¬ 0 < iI (cmpI (al u s (mxI s s')) (al u' s' (mxI s s'))) from fun w => h5 (by rw [iI_lit 0, iI_lt ⟨by decide, by decide⟩ ⟨by omega, by omega⟩] at w; exact w)), ov_isO, Option.bind_some, c1]
        exact fin _ M2 (a2.tr c2)
/-! turn -/
def isT (a : Int32) : Bool := decide (a = 45 ∨ a = 97 ∨ a = 115)
def spT (a : Int32) (u s : Int) : Option (Int × Int) := if a = 45 then some (-u, s) else if a = 97 then some ((u.natAbs : Int), s) else spS u s
theorem spT_rg {a : Int32} {u s x y : Int} (hg : RgV u s) (h : spT a u s = some (x, y)) : RgV x y := by
  have ⟨r1, r2, r3, r4⟩ := hg
  unfold spT at h
  by_cases h1 : a = 45
  · rw [if_pos h1] at h; cases h; exact ⟨by omega, by omega, r3, r4⟩
  rw [if_neg h1] at h
  by_cases h2 : a = 97
  · rw [if_pos h2] at h; cases h; exact ⟨by omega, by omega, r3, r4⟩
  rw [if_neg h2] at h
  unfold spS at h
  by_cases h3 : u = 0
  · rw [if_pos h3] at h; cases h; exact ⟨by decide, by decide, by decide, by decide⟩
  · rw [if_neg h3] at h; exact (chk_rg h).1
theorem x_turned {σ : Sto} {sz p N : Nat} {u s : Int} {a : Int32} (h : Val σ p u s) (hr : RgV u s) (hF : Fr σ sz) (hN : 30 ≤ N) : VO (spT a u s) σ sz (f_X11_turned N σ sz p a) := by
  have ⟨r1, r2, r3, r4⟩ := hr
  have hp := h.lt hF
  have e1 := h.of (σ' := nO σ sz 9 dvX10) (nO_lo hp)
  have mk : ∀ x y : Int, VO (some (x, y)) σ sz (b2 (f_X10_init (nO σ sz 9 dvX10) sz (iL x) (iI y)) fun _ τ6 => some (.inr sz, τ6, sz + 1)) := by
    intro x y
    rw [x_newV]
    exact VO.vQ (r := some (x, y)) (fun _ _ => rfl) (Nat.le_refl _)
  unfold f_X11_turned spT
  by_cases h1 : a = 45
  · rw [if_pos h1, if_pos h1]
    dsimp only [lt_]
    rw [e1.u, Option.bind_some, e1.s, Option.bind_some, iL_neg]
    exact mk _ _
  rw [if_neg h1, if_neg h1]
  by_cases h2 : a = 97
  · rw [if_pos h2, if_pos h2]
    dsimp only [lt_]
    rw [e1.u, Option.bind_some, e1.s, Option.bind_some, x_abs ⟨by omega, by omega⟩]
    exact mk _ _
  rw [if_neg h2, if_neg h2, h.io, Option.bind_some, x_stripped h hr hN, vQ_id]
  exact VO.vQ (fun _ _ => rfl) (Nat.le_refl _)
theorem p_turn {xb mb ob N : Nat} (hN : 1000 ≤ N) : A_turn (I0 xb mb ob) N xb mb ob := by
  intro v1 a v3
  refine ag_in (fun n σ sz ni A W K M hn hA ho hC hR hF => ?_)
  subst hA
  have no : ∀ (ρ : Sto) (c : Nat) (v1 v2 v3 : Int32), c ≠ 0 → c < 100 → b_X12_turn_67 N (ov mb M ρ) mb v1 v2 v3 (iI (c : Nat)) mb = some (0, ov mb (uI M 8 (iI (c : Nat))) ρ) := by
    intro ρ c v1 v2 v3 h1 h2
    unfold b_X12_turn_67
    rw [ov_isO, Option.bind_some, m_fails h2, decide_eq_true (by omega)]
    rfl
  have n1 := fun ρ v1 v2 v3 => no ρ 1 v1 v2 v3 (by decide) (by decide)
  have n2 := fun ρ v1 v2 v3 => no ρ 2 v1 v2 v3 (by decide) (by decide)
  have n3 := fun ρ v1 v2 v3 => no ρ 3 v1 v2 v3 (by decide) (by decide)
  have jM : ∀ (ρ : Sto) (v1 v3 : Int32), f_X12_turn N (ov mb M ρ) mb v1 a v3 = b_X12_turn_23 N (ov mb M ρ) mb v1 a v3 (bI (isT a)) := by
    intro ρ v1 v3
    unfold f_X12_turn b_X12_turn_18 isT
    by_cases c1 : a = 45
    · rw [if_pos c1, decide_eq_true (Or.inl c1)]; rfl
    rw [if_neg c1]
    by_cases c2 : a = 97
    · rw [if_pos c2, decide_eq_true (by simp [c2])]; rfl
    rw [if_neg c2]
    by_cases c3 : a = 115
    · rw [if_pos c3, decide_eq_true (by simp [c3])]; rfl
    rw [if_neg c3, decide_eq_false (by simp [c1, c2, c3])]; rfl
  have jX : ∀ (v1 v3 : Int32), f_X11_checkShelf v1 = some (.inr ()) → f_X11_checkShelf v3 = some (.inr ()) → f_X11_turn N σ sz (A 0 0) v1 a v3 = if isT a = true then b_X11_turn_36 N σ sz (A 0 0) v1 a v3 else some (.inl 1, σ, sz) := by
    intro v1 v3 h1 h2
    unfold f_X11_turn isT
    simp only [h1, h2, Option.bind_some, bs]
    by_cases c1 : a = 45
    · rw [if_pos c1, if_pos (decide_eq_true (Or.inl c1))]
    rw [if_neg c1]
    by_cases c2 : a = 97
    · rw [if_pos c2, if_pos (decide_eq_true (by simp [c2]))]
    rw [if_neg c2]
    by_cases c3 : a = 115
    · rw [if_pos c3, if_pos (decide_eq_true (by simp [c3]))]
    rw [if_neg c3, if_neg (fun w => by have := of_decide_eq_true w; simp [c1, c2, c3] at this)]
  rcases sh_cases (v := v1) hR.1 with ⟨k, rfl, hk, c1⟩ | ⟨k, rfl, hk, ha⟩
  · refine ag_no (k := 1) (y := sz) rfl ho hC hR ?_ (by decide) (by decide) (fun ρ => ⟨uI M 8 1, 0, ?_, Sd.u8, u8_v⟩)
    · simp only [f_L_turn, f_X11_turn, hC.xo, Option.bind_some, x_shN hk c1, bs, b3]
      rfl
    · simp only [jM, b_X12_turn_23, Option.bind_some, m_shN hk c1, if_true]
      exact n1 ρ _ _ _
  rcases sh_cases (v := v3) hR.1 with ⟨t, rfl, ht, c1⟩ | ⟨t, rfl, ht, -⟩
  · refine ag_no (k := 1) (y := sz) rfl ho hC hR ?_ (by decide) (by decide) (fun ρ => ⟨uI M 8 1, 0, ?_, Sd.u8, u8_v⟩)
    · simp only [f_L_turn, f_X11_turn, hC.xo, Option.bind_some, x_shelfOk hk, x_shN ht c1, bs, b3]
      rfl
    · simp only [jM, b_X12_turn_23, Option.bind_some, m_shY hk, m_shN ht c1, if_true]
      exact n1 ρ _ _ _
  by_cases hj : isT a = true
  case neg =>
    have hj1 : isT a = false := by cases h : isT a <;> simp_all
    refine ag_no (k := 2) (y := sz) rfl ho hC hR ?_ (by decide) (by decide) (fun ρ => ⟨uI M 8 2, 0, ?_, Sd.u8, u8_v⟩)
    · simp only [f_L_turn, hC.xo, Option.bind_some, jX _ _ (x_shelfOk hk) (x_shelfOk ht), if_neg hj, bs, b3]
      rfl
    · simp only [jM, b_X12_turn_23, Option.bind_some, m_shY hk, m_shY ht, hj1]
      exact n2 ρ _ _ _
  rcases ha with ⟨e1, e2⟩ | ⟨p, u, s, e1, hv, hg, hm⟩
  · refine ag_no (k := 3) (y := sz) rfl ho hC hR ?_ (by decide) (by decide) (fun ρ => ⟨uI M 8 3, 0, ?_, Sd.u8, u8_v⟩)
    · simp only [f_L_turn, hC.xo, Option.bind_some, jX _ _ (x_shelfOk hk) (x_shelfOk ht), if_pos hj, b_X11_turn_36, x_valueOn hC hk, e1, oq, bs, b3]
      rfl
    · simp only [jM, b_X12_turn_23, Option.bind_some, m_shY hk, m_shY ht, hj, oR_5, oA_5, in12 hk, cl12 hk, e2, if_true]
      exact n3 ρ _ _ _
  have ⟨r1, r2, r3, r4⟩ := hg
  have hvo : VO (spT a u s) σ sz (f_X11_turned N σ sz p a) := x_turned hv hg hF (by omega)
  have hx := vo_scale (t := t) hC hF hR hvo ht (fun x y e => spT_rg hg e)
  refine ag_val (code := 4) (F := fun j6 τ3 y4 => if j6 = 0 then some (1, τ3, y4) else if j6 = 1 then some (2, τ3, y4) else if j6 = 2 then some (3, τ3, y4) else if j6 = 3 then some (4, τ3, y4) else none) rfl ho hx (by decide) (by decide) (fun τ y => rfl) ?_ (fun ρ => ?_)
  · simp only [f_L_turn, hC.xo, Option.bind_some, jX _ _ (x_shelfOk hk) (x_shelfOk ht), if_pos hj, b_X11_turn_36, x_valueOn hC hk, e1, oq, bs]
  · have m8 : MV (uI M 8 0) k u s := hm
    have bb2 : ∀ {α β γ : Type} (x : α) (y : β) (f : α → β → Option γ), b2 (some (x, y)) f = f x y := fun _ _ _ => rfl
    have fin : ∀ (b : Bool) (v : Int) (w : Int) (r : Option (Int × Int)), v.natAbs ≤ 999999999999999999 → -1000 ≤ w ∧ w ≤ 1000 → r = chk (sgn b v.natAbs) w → MR r 4 (fun _ s => iI s) mb M ρ t (b_X12_turn_178 N (ov mb (uI M 8 0) ρ) mb (iI (t : Nat)) (iL v) (iI w) (bI b)) := by
      intro b v w r hv hw hr
      obtain ⟨M1, a1, a2, a3⟩ := m_lets (mb := mb) (M := uI M 8 0) (σ := ρ) (r := 4) (z := v) (N := N) (by decide) ⟨by omega, by omega⟩ (by omega)
      have e4 : f_X12_lets N (ov mb (uI M 8 0) ρ) mb 4 (iL v) = some ((), ov mb M1 ρ) := a1
      have key : f_X12_lays N (ov mb M1 ρ) mb (iI (t : Nat)) 4 (bI b) (iI w) = mL mb M1 ρ t (chk (sgn b v.natAbs) w) := m_lays (mb := mb) (M := M1) (σ := ρ) (k := t) (r := 4) (b := b) (s := w) (N := N) ht (by decide) a3 ⟨by omega, by omega⟩ (by omega)
      unfold b_X12_turn_178
      rw [ov_isO, Option.bind_some, e4, bb2, ov_isO, Option.bind_some, key, ← hr]
      refine MR_end (code := 4) (E := fun c τ => b_X12_turn_206 N τ mb (iI (t : Nat)) c mb) (by decide) (by decide) (Sd.u8.tr a2.sc.sd) ?_ ?_
      · intro c M3 hc
        subst hc
        unfold b_X12_turn_206
        simp only [ov_isO, Option.bind_some, m_fails (show 4 < 100 by decide), b2]
        rfl
      · intro u' s' M3 hr hm3
        unfold b_X12_turn_206
        simp only [ov_isO, Option.bind_some, ff0, b2, if_true, oR_4, oA_4, in12 ht, cl12 ht, hm3.u8.2.2]
    simp only [jM, b_X12_turn_23, Option.bind_some, m_shY hk, m_shY ht, hj, oR_5, oA_5, in12 hk, cl12 hk, hm.1, if_true]
    show MR _ 4 _ mb M ρ t (b_X12_turn_67 N (ov mb M ρ) mb (iI (k : Nat)) a (iI (t : Nat)) 0 mb)
    unfold b_X12_turn_67 spT
    simp only [ov_isO, Option.bind_some, ff0, b2, if_true, oR_4, oA_4, in12 hk, cl12 hk, m8.2.2, oR_3, oA_3, m8.2.1]
    have le0 : iL u ≤ 0 ↔ u ≤ 0 := by rw [show (0 : Int64) = iL 0 from rfl, iL_le ⟨by omega, by omega⟩ ⟨by decide, by decide⟩]
    by_cases h45 : a = 45
    · have h115 : ¬ a = 115 := by rw [h45]; decide
      rw [if_neg h115, if_pos h45]
      unfold b_X12_turn_139
      rw [if_pos h45]
      by_cases hu : u ≤ 0
      · rw [if_pos (le0.mpr hu)]
        refine fin false u s _ (by omega) ⟨by omega, by omega⟩ ?_
        rw [sgn_f, show ((u.natAbs : Nat) : Int) = -u by omega, chk_ok ⟨by omega, by omega, r3, r4⟩]
      · rw [if_neg (fun w => hu (le0.mp w))]
        refine fin true u s _ (by omega) ⟨by omega, by omega⟩ ?_
        rw [sgn_t, show -((u.natAbs : Nat) : Int) = -u by omega, chk_ok ⟨by omega, by omega, r3, r4⟩]
    rw [if_neg h45]
    by_cases h97 : a = 97
    · have h115 : ¬ a = 115 := by rw [h97]; decide
      rw [if_neg h115, if_pos h97]
      unfold b_X12_turn_139 b_X12_turn_177
      rw [if_neg h45, if_neg h115]
      refine fin false u s _ (by omega) ⟨by omega, by omega⟩ ?_
      rw [sgn_f, chk_ok ⟨by omega, by omega, r3, r4⟩]
    rw [if_neg h97]
    have h115 : a = 115 := by
      have := of_decide_eq_true hj
      simp only [h45, h97, false_or] at this
      exact this
    rw [if_pos h115]
    have tl := tz_le (n := u.natAbs) (by omega)
    have end_ : ∀ j : Nat, j = tz u.natAbs → ∀ K : Sto × Nat × Int32 × Int32 × Int64 × Int32 → Option (Int32 × Sto), MR (spS u s) 4 (fun _ s => iI s) mb M ρ t (b_X12_turn_97_body N K (ov mb (uI M 8 0) ρ) mb a (iI (t : Nat)) (iL (sgn (ng u) (u.natAbs / 10 ^ j))) (iI (s - (j : Int)))) := by
      intro j hj K
      have t3 := Nat.div_le_self u.natAbs (10 ^ j)
      have t5 := sgn_abs (ng u) (u.natAbs / 10 ^ j)
      have t4 := sg_tdiv (b := ng u) (n := u.natAbs / 10 ^ j) (by omega)
      have z0 : iL (sgn (ng u) (u.natAbs / 10 ^ j)) = 0 ↔ u.natAbs / 10 ^ j = 0 := by
        rw [iL_lit 0, iL_eq ⟨by omega, by omega⟩ ⟨by decide, by decide⟩]
        omega
      have ge0 : 0 ≤ iL (sgn (ng u) (u.natAbs / 10 ^ j)) ↔ 0 ≤ sgn (ng u) (u.natAbs / 10 ^ j) := by rw [show (0 : Int64) = iL 0 from rfl, iL_le ⟨by decide, by decide⟩ ⟨by omega, by omega⟩]
      have e129 : MR (spS u s) 4 (fun _ s => iI s) mb M ρ t (b_X12_turn_129 N (ov mb (uI M 8 0) ρ) mb a (iI (t : Nat)) (iL (sgn (ng u) (u.natAbs / 10 ^ j))) (iI (s - (j : Int)))) := by
        unfold b_X12_turn_129 b_X12_turn_139 b_X12_turn_177 spS
        by_cases hu : u = 0
        · subst hu
          have hz : (0 : Int).natAbs / 10 ^ j = 0 := Nat.zero_div _
          rw [if_pos rfl, if_pos (z0.mpr hz), if_neg h45, if_pos h115, if_pos (by rw [hz]; decide)]
          refine fin false _ 0 _ (by rw [hz]; decide) ⟨by decide, by decide⟩ ?_
          rw [hz]
          rfl
        · have te := tz_end (n := u.natAbs) (by omega)
          rw [← hj] at te
          rw [if_neg hu, if_neg (fun w => te.1 (z0.mp w)), if_neg h45, if_pos h115, ← hj]
          by_cases hs : 0 ≤ sgn (ng u) (u.natAbs / 10 ^ j)
          · rw [if_pos (ge0.mpr hs)]
            refine fin false _ _ _ (by omega) ⟨by omega, by omega⟩ ?_
            rw [sgn_f, show (((sgn (ng u) (u.natAbs / 10 ^ j)).natAbs : Nat) : Int) = sgn (ng u) (u.natAbs / 10 ^ j) by omega]
          · rw [if_neg (fun w => hs (ge0.mp w))]
            refine fin true _ _ _ (by omega) ⟨by omega, by omega⟩ ?_
            rw [sgn_t, show -(((sgn (ng u) (u.natAbs / 10 ^ j)).natAbs : Nat) : Int) = sgn (ng u) (u.natAbs / 10 ^ j) by omega]
      unfold b_X12_turn_97_body
      by_cases hz : u.natAbs / 10 ^ j = 0
      · rw [if_pos (z0.mpr hz)]
        exact e129
      · rw [if_neg (fun w => hz (z0.mp w))]
        have te := tz_end (n := u.natAbs) (fun w => hz (by rw [w]; exact Nat.zero_div _))
        rw [← hj] at te
        rw [if_neg (fun w => te.2 (t4.2.mp w))]
        exact e129
    unfold b_X12_turn_97
    have st0 : (ov mb (uI M 8 0) ρ, mb, a, iI (t : Nat), iL u, iI s) = (ov mb (uI M 8 0) ρ, mb, a, iI (t : Nat), iL (sgn (ng u) (u.natAbs / 10 ^ 0)), iI (s - ((0 : Nat) : Int))) := by
      rw [Nat.pow_zero, Nat.div_one, sgn_ng, show s - ((0 : Nat) : Int) = s by omega]
    rw [st0]
    refine lp_ex (n := tz u.natAbs) (Inv := fun j e => e = (ov mb (uI M 8 0) ρ, mb, a, iI (t : Nat), iL (sgn (ng u) (u.natAbs / 10 ^ j)), iI (s - (j : Int)))) (Post := fun o => MR (spS u s) 4 (fun _ s => iI s) mb M ρ t o) ?_ ?_ N 0 _ (Nat.zero_le _) (by omega) rfl
    · rintro j _ hj rfl
      have t2 := tz_in hj
      have t3 := Nat.div_le_self u.natAbs (10 ^ j)
      have t4 := sg_tdiv (b := ng u) (n := u.natAbs / 10 ^ j) (by omega)
      have t5 := sgn_abs (ng u) (u.natAbs / 10 ^ j)
      refine ⟨_, rfl, fun K => ?_⟩
      dsimp only
      unfold b_X12_turn_97_body
      rw [if_neg (fun w => t2.1 (by rw [iL_lit 0, iL_eq ⟨by omega, by omega⟩ ⟨by decide, by decide⟩] at w; omega)), if_pos (t4.2.mpr t2.2), t4.1]
      simp only [lt_]
      rw [Nat.pow_succ, ← Nat.div_div_eq_div_mul, show (-1 : Int32) = iI (-1) from rfl, iI_add, show s - (j : Int) + -1 = s - ((j + 1 : Nat) : Int) by omega]
    · rintro _ rfl K
      exact end_ _ rfl K
