/-! reading: the other side's law -/
def HdL (h : AH) (t : Nat) (x : Co) (c : Nat) : Prop := h.2.1 90 (8 * t) = nI (x.1 - 263) ∧ (263 ≤ x.1 ∧ x.1 ≤ 265 ∧ (x.2.1.1 = none ↔ x.1 = 265) ∧ x.2.1.2.1 = none) ∧ ∃ i m j, h.2.1 90 (8 * t + 3) = nI i ∧ h.2.1 90 (8 * t + 4) = nI m ∧ h.2.1 90 (8 * t + 5) = nI m ∧ h.2.1 90 (8 * t + 6) = nI j ∧ j ≤ c ∧ OpM h false x.2.1.1 i m ∧ TpM h false x.2.1.2.2 m j
def RLc (h : AH) (b : Nat → Nat) (t n m c : Nat) (r : Nat ⊕ (Nat × Nat × Co)) (res : Option (Unit × AH)) : Prop := match r with
  | .inl j => ∃ h', res = some ((), h') ∧ Eqv PFr h h' ∧ BadE h' b t j
  | .inr (i', lv', x) => ∃ h' c', c ≤ c' ∧ res = some ((), h') ∧ Eqv PFr h h' ∧ MB h' b t n false i' lv' c' ∧ h'.2.1 80 21 = nI (m + 1) ∧ Cod h h' c ∧ (∀ j, j < 8 * m → h'.2.1 90 j = h.2.1 90 j) ∧ HdL h' m x c'
theorem m_ifB (h : AH) (G : AH → Option (Unit × AH)) : ((ckO S_1 h 80 11).bind fun _ =>
    (f_X11_isWord S_1 80 (294 : Int64) h).bind fun z => match z with
    | (z_24, h_23) =>
    if z_24 = (0 : Int32) then G h_23
    else
      (ckO S_1 h_23 80 11).bind fun _ =>
      (f_X11_next S_1 80 h_23).bind fun z => match z with
      | (_, h_33) =>
      (ckO S_1 h_33 80 11).bind fun _ =>
      (f_X11_readExpression S_1 80 (1 : Int32) h_33).bind fun z => match z with
      | (_, h_36) => G h_36) = ((ckO S_1 h 80 11).bind fun _ =>
    (f_X11_isWord S_1 80 (294 : Int64) h).bind fun z => match z with
    | (z_24, h_23) =>
    if z_24 = (0 : Int32) then some ((), h_23)
    else
      (ckO S_1 h_23 80 11).bind fun _ =>
      (f_X11_next S_1 80 h_23).bind fun z => match z with
      | (_, h_33) =>
      (ckO S_1 h_33 80 11).bind fun _ =>
      (f_X11_readExpression S_1 80 (1 : Int32) h_33)).bind fun z => G z.2 := by
  rw [bs_ (ck_80 h), bs_ (ck_80 h)]
  rcases f_X11_isWord S_1 80 (294 : Int64) h with _ | ⟨z, h1⟩
  · rfl
  · show (if z = (0 : Int32) then G h1 else _) = (if z = (0 : Int32) then some ((), h1) else _).bind fun z => G z.2
    by_cases c : z = 0
    · rw [if_pos c, if_pos c]
      rfl
    · rw [if_neg c, if_neg c, bs_ (ck_80 h1), bs_ (ck_80 h1)]
      rcases f_X11_next S_1 80 h1 with _ | ⟨u, h2⟩
      · rfl
      · show ((ckO S_1 h2 80 11).bind fun _ => _) = ((ckO S_1 h2 80 11).bind fun _ => _).bind fun (z : Unit × AH) => G z.2
        rw [bs_ (ck_80 h2), bs_ (ck_80 h2)]
        rcases f_X11_readExpression S_1 80 (1 : Int32) h2 with _ | ⟨u, h3⟩ <;> rfl
/-- behind the sum -/
theorem m_j135 {h g : AH} {b : Nat → Nat} {t n i lv c c' m x : Nat} {s : Option DD} (e : Eqv PFr h g) (k : MB g b t n false i lv c') (hm : m < 12) (g21 : g.2.1 80 21 = nI (m + 1)) (cd : Cod h g c) (o : ∀ j, j < 8 * m → g.2.1 90 j = h.2.1 90 j) (v0 : g.2.1 90 (8 * m) = nI (x - 263)) (v3 : g.2.1 90 (8 * m + 3) = nI c) (hx : 263 ≤ x ∧ x ≤ 265 ∧ (s = none ↔ x = 265)) (op : OpM g false s c c') : RLc h b t n m c (match ifS (tkK b t) (tkU b t) false i lv with
    | .inl j => .inl j
    | .inr (i2, lv2, t) => .inr (i2, lv2, x, (s, none, t), 1)) (f_X11_readLaw_j135 S_1 80 (nI (8 * m)) g) := by
  have l1 := op.le
  obtain ⟨g2, hg2⟩ : ∃ g2, g2 = stI (stI g 90 (8 * m + 4) (nI c')) 90 (8 * m + 5) (nI c') := ⟨_, rfl⟩
  have e2 : Eqv PH g g2 := by
    rw [hg2]
    exact ((Eqv.refl g).si (PH_o (by omega))).si (PH_o (by omega))
  have k2 := k.h e2
  have w4 : g2.2.1 90 (8 * m + 4) = nI c' := by rw [hg2, ri_k (by omega), stI_s]
  have w5 : g2.2.1 90 (8 * m + 5) = nI c' := by rw [hg2, stI_s]
  have g221 : g2.2.1 80 21 = nI (m + 1) := by rw [hg2, ri_p (by decide), ri_p (by decide)]; exact g21
  have wo : ∀ j, j < 8 * m + 4 → g2.2.1 90 j = g.2.1 90 j := fun j hj => by rw [hg2, ri_k (by omega), ri_k (by omega)]
  have GG : ∀ u : AH, ((gR S_1 u 80 11 22).bind fun p_26 => (gI S_1 u 80 11 23).bind fun v_28 => (sI S_1 u p_26 (nI (8 * m) + (6 : Int32)) v_28).bind fun h_30 => some ((), h_30)) = some ((), stI u 90 (8 * m + 6) (u.2.1 80 23)) := fun u => by
    rw [bs_ (yr_80_22 u), bs_ (gi80 u 23), show nI (8 * m) + (6 : Int32) = nI (8 * m + 6) from nI_add _ 6, bs_ (si_90 u _ (by omega))]
  have E : f_X11_readLaw_j135 S_1 80 (nI (8 * m)) g = ((ckO S_1 g2 80 11).bind fun _ =>
    (f_X11_isWord S_1 80 (294 : Int64) g2).bind fun z => match z with
    | (z_24, h_23) =>
    if z_24 = (0 : Int32) then some ((), h_23)
    else
      (ckO S_1 h_23 80 11).bind fun _ =>
      (f_X11_next S_1 80 h_23).bind fun z => match z with
      | (_, h_33) =>
      (ckO S_1 h_33 80 11).bind fun _ =>
      (f_X11_readExpression S_1 80 (1 : Int32) h_33)).bind fun z => (gR S_1 z.2 80 11 22).bind fun p_26 => (gI S_1 z.2 80 11 23).bind fun v_28 => (sI S_1 z.2 p_26 (nI (8 * m) + (6 : Int32)) v_28).bind fun h_30 => some ((), h_30) := by
    unfold f_X11_readLaw_j135
    rw [bs_ (yr_80_22 g), bs_ (gi80 g 23), k.2.2.2.2.1, show nI (8 * m) + (4 : Int32) = nI (8 * m + 4) from nI_add _ 4, bs_ (si_90 g _ (by omega))]
    obtain ⟨g1, hg1⟩ : ∃ g1, g1 = stI g 90 (8 * m + 4) (nI c') := ⟨_, rfl⟩
    rw [← hg1, bs_ (yr_80_22 g1), bs_ (gi80 g1 23), show g1.2.1 80 23 = nI c' by rw [hg1, ri_p (by decide)]; exact k.2.2.2.2.1, show nI (8 * m) + (5 : Int32) = nI (8 * m + 5) from nI_add _ 5, bs_ (si_90 g1 _ (by omega)), hg1, ← hg2, bs_ (gi80 g2 19), k2.2.1, if_pos rfl]
    exact m_ifB g2 fun u => (gR S_1 u 80 11 22).bind fun p_26 => (gI S_1 u 80 11 23).bind fun v_28 => (sI S_1 u p_26 (nI (8 * m) + (6 : Int32)) v_28).bind fun h_30 => some ((), h_30)
  rw [E]
  have q := m_if k2
  have E2 : Eqv PFr h g2 := e.trans (e2.mono PH_F)
  revert q
  rcases ifS (tkK b t) (tkU b t) false i lv with j | ⟨i2, lv2, tt⟩
  · rintro ⟨h3, r3, e3, b3⟩
    rw [bs_ r3, GG]
    have e4 : Eqv PH h3 (stI h3 90 (8 * m + 6) (h3.2.1 80 23)) := (Eqv.refl h3).si (PH_o (by omega))
    exact ⟨_, rfl, (E2.trans (e3.mono PE_F)).trans (e4.mono PH_F), b3.h e4⟩
  · rintro ⟨h3, c3, r3, e3, k3, cd3, tp3⟩
    have l3 := tp3.le
    rw [bs_ r3, GG, k3.2.2.2.2.1]
    have e4 : Eqv PH h3 (stI h3 90 (8 * m + 6) (nI c3)) := (Eqv.refl h3).si (PH_o (by omega))
    have z90 : ∀ j, h3.2.1 90 j = g2.2.1 90 j := fun j => e3.i 90 j (decide_eq_false (by omega))
    have cd4 : Cod h3 (stI h3 90 (8 * m + 6) (nI c3)) 400 := Cod.h e4
    have cdA : Cod g (stI h3 90 (8 * m + 6) (nI c3)) c' := fun j hj => by
      have a := Cod.h (c := c') e2 j hj
      have b := cd3 j hj
      have d : (stI h3 90 (8 * m + 6) (nI c3)).2.1 91 j = h3.2.1 91 j ∧ (stI h3 90 (8 * m + 6) (nI c3)).2.1 92 j = h3.2.1 92 j := ⟨ri_p (by decide), ri_p (by decide)⟩
      exact ⟨d.1.trans (b.1.trans a.1), d.2.trans (b.2.trans a.2)⟩
    have zz : ∀ j, j ≠ 8 * m + 6 → (stI h3 90 (8 * m + 6) (nI c3)).2.1 90 j = g2.2.1 90 j := fun j hj => (ri_k hj).trans (z90 j)
    refine ⟨_, c3, by omega, rfl, (E2.trans (e3.mono PE_F)).trans (e4.mono PH_F), k3.h e4, ?_, cd.trans (cdA.le l1) (Nat.le_refl c), fun j hj => (zz j (by omega)).trans ((wo j (by omega)).trans (o j hj)), (zz _ (by omega)).trans ((wo _ (by omega)).trans v0), ⟨hx.1, hx.2.1, hx.2.2, rfl⟩, c, c', c3, (zz _ (by omega)).trans ((wo _ (by omega)).trans v3), (zz _ (by omega)).trans w4, (zz _ (by omega)).trans w5, stI_s _ _ _ _, Nat.le_refl _, op.cong cdA, tp3.cong fun j _ => ⟨ri_p (by decide), ri_p (by decide)⟩⟩
    rw [ri_p (by decide), e3.i 80 21 rfl]
    exact g221
