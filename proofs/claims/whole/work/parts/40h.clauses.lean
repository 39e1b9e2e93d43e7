/-! reading: the other side's orders -/
theorem bad_sum {h : AH} {b : Nat → Nat} {t j p : Nat} (k : BadE h b t j) (hp : p + 1 < 96) : ∃ h', f_X11_readSum S_1 80 (nI p) h = some ((), h') ∧ Eqv PH h h' := by
  obtain ⟨h1, hh1⟩ : ∃ h1, h1 = stI h 108 p (h.2.1 80 23) := ⟨_, rfl⟩
  have e1 : Eqv PH h h1 := by rw [hh1]; exact (Eqv.refl h).si (PH_o (by omega))
  refine ⟨stI h1 108 (p + 1) (h1.2.1 80 23), ?_, e1.si (PH_o (by omega))⟩
  unfold f_X11_readSum
  rw [bs_ (yr_80_49 h), bs_ (gi80 h 23), bs_ (si_108 h _ (by omega)), ← hh1, bs_ (gi80 h1 19), (k.h e1).1, if_neg (by decide), bs_ (yr_80_49 h1), bs_ (gi80 h1 23), nI_1, bs_ (si_108 h1 _ hp)]
theorem bad_217 {h : AH} {b : Nat → Nat} {t j m : Nat} (k : BadE h b t j) (hm : m < 12) : ∃ h', f_X11_readOrder_j217 S_1 80 (nI (8 * m)) h = some ((), h') ∧ Eqv PH h h' := by
  obtain ⟨h1, hh1⟩ : ∃ h1, h1 = stI h 108 (8 * m + 5) (h.2.1 80 23) := ⟨_, rfl⟩
  have e1 : Eqv PH h h1 := by rw [hh1]; exact (Eqv.refl h).si (PH_o (by omega))
  refine ⟨stI h1 108 (8 * m + 6) (h1.2.1 80 23), ?_, e1.si (PH_o (by omega))⟩
  unfold f_X11_readOrder_j217
  rw [bs_ (yr_80_49 h), bs_ (gi80 h 23), show nI (8 * m) + (5 : Int32) = nI (8 * m + 5) from nI_add _ 5, bs_ (si_108 h _ (by omega)), ← hh1, bs_ (gi80 h1 19), (k.h e1).1, if_neg (by decide), bs_ (yr_80_49 h1), bs_ (gi80 h1 23), show nI (8 * m) + (6 : Int32) = nI (8 * m + 6) from nI_add _ 6, bs_ (si_108 h1 _ (by omega))]
theorem bad_169 {h : AH} {b : Nat → Nat} {t j m : Nat} (k : BadE h b t j) (hm : m < 12) : ∃ h', f_X11_readOrder_j169 S_1 80 (nI (8 * m)) h = some ((), h') ∧ Eqv PH h h' := by
  obtain ⟨h1, hh1⟩ : ∃ h1, h1 = stI h 108 (8 * m + 7) 1 := ⟨_, rfl⟩
  have e1 : Eqv PH h h1 := by rw [hh1]; exact (Eqv.refl h).si (PH_o (by omega))
  obtain ⟨h2, r2, e2⟩ := bad_217 (k.h e1) hm
  refine ⟨h2, ?_, e1.trans e2⟩
  unfold f_X11_readOrder_j169
  rw [bs_ (yr_80_49 h), show nI (8 * m) + (7 : Int32) = nI (8 * m + 7) from nI_add _ 7, bs_ (si_108 h _ (by omega)), ← hh1, bs_ (gi80 h1 19), (k.h e1).1, if_neg (by decide), r2]
theorem bad_162 {h : AH} {b : Nat → Nat} {t j m : Nat} (k : BadE h b t j) (hm : m < 12) : ∃ h', f_X11_readOrder_j162 S_1 80 (nI (8 * m)) h = some ((), h') ∧ Eqv PH h h' := by
  obtain ⟨h1, r1, e1⟩ := bad_sum (p := 8 * m + 3) k (by omega)
  obtain ⟨h2, r2, e2⟩ := bad_169 (k.h e1) hm
  refine ⟨h2, ?_, e1.trans e2⟩
  unfold f_X11_readOrder_j162
  rw [bs_ (ck_80 h), show nI (8 * m) + (3 : Int32) = nI (8 * m + 3) from nI_add _ 3, bs_ r1]
  exact r2
theorem bad_125 {h : AH} {b : Nat → Nat} {t j m : Nat} (k : BadE h b t j) (hm : m < 12) (x1 : Int32) : ∃ h', f_X11_readOrder_j125 S_1 80 x1 (nI (8 * m)) h = some ((), h') ∧ Eqv PH h h' := by
  have a : ∃ h', f_X11_readOrder_j134 S_1 80 x1 (nI (8 * m)) h = some ((), h') ∧ Eqv PH h h' := by
    unfold f_X11_readOrder_j134
    rw [bs_ (gi80 h 19), k.1, if_neg (by decide)]
    exact bad_162 k hm
  unfold f_X11_readOrder_j125
  by_cases c : x1 = 0
  · rw [if_pos c]; exact a
  · rw [if_neg c]
    by_cases c2 : x1 = 2
    · rw [if_pos c2]; exact a
    · rw [if_neg c2]; exact bad_169 k hm
def SecM (h : AH) (p : Nat) (s : Option DD) (i j : Nat) : Prop := match s with
  | none => i = j ∧ h.2.1 108 p = 0 ∧ h.2.1 108 (p + 1) = 0
  | some d => h.2.1 108 p = nI i ∧ h.2.1 108 (p + 1) = nI j ∧ OpM h true (some d) i j
theorem SecM.cong {h h' : AH} {p : Nat} {s : Option DD} {i j : Nat} (k : SecM h p s i j) (e : Cod h h' j) (e1 : h'.2.1 108 p = h.2.1 108 p) (e2 : h'.2.1 108 (p + 1) = h.2.1 108 (p + 1)) : SecM h' p s i j := by
  rcases s with _ | d
  · exact ⟨k.1, e1.trans k.2.1, e2.trans k.2.2⟩
  · exact ⟨e1.trans k.1, e2.trans k.2.1, OpM.cong (s := some d) k.2.2 e⟩
theorem SecM.le {h : AH} {p : Nat} {s : Option DD} {i j : Nat} (k : SecM h p s i j) : i ≤ j := by
  rcases s with _ | d
  · exact Nat.le_of_eq k.1
  · exact OpM.le (s := some d) k.2.2
def HdO (h : AH) (t : Nat) (x : Co) (c : Nat) : Prop := h.2.1 108 (8 * t) = nI (x.1 - 266) ∧ h.2.1 108 (8 * t + 7) = nI x.2.2 ∧ (266 ≤ x.1 ∧ x.1 ≤ 269 ∧ 1 ≤ x.2.2 ∧ x.2.2 ≤ 20) ∧ ∃ i m1 m2 j, SecM h (8 * t + 1) x.2.1.1 i m1 ∧ SecM h (8 * t + 3) x.2.1.2.1 m1 m2 ∧ h.2.1 108 (8 * t + 5) = nI m2 ∧ h.2.1 108 (8 * t + 6) = nI j ∧ j ≤ c ∧ TpM h true x.2.1.2.2 m2 j
def ROc (h : AH) (b : Nat → Nat) (t n m c : Nat) (r : Nat ⊕ (Nat × Nat × Co)) (res : Option (Unit × AH)) : Prop := match r with
  | .inl j => ∃ h', res = some ((), h') ∧ Eqv PFr h h' ∧ BadE h' b t j
  | .inr (i', lv', x) => ∃ h' c', c ≤ c' ∧ res = some ((), h') ∧ Eqv PFr h h' ∧ MB h' b t n true i' lv' c' ∧ h'.2.1 80 21 = nI (m + 1) ∧ Cod h h' c ∧ (∀ j, j < 8 * m → h'.2.1 108 j = h.2.1 108 j) ∧ HdO h' m x c'
/-- a sum and its two heads -/
theorem m_readSum {g : AH} {b : Nat → Nat} {t n i lv c p : Nat} (k : MB g b t n true i lv c) (hp : p + 1 < 96) : match sumS (tkK b t) (tkU b t) true 8 i lv with
  | .inl j => ∃ h', f_X11_readSum S_1 80 (nI p) g = some ((), h') ∧ Eqv PFr g h' ∧ BadE h' b t j
  | .inr (i', lv', d) => ∃ h' c', f_X11_readSum S_1 80 (nI p) g = some ((), h') ∧ Eqv PFr g h' ∧ MB h' b t n true i' lv' c' ∧ Cod g h' c ∧ SecM h' p (some d) c c' ∧ h'.2.1 80 21 = g.2.1 80 21 ∧ ∀ j, j ≠ p → j ≠ p + 1 → h'.2.1 108 j = g.2.1 108 j := by
  obtain ⟨h1, hh1⟩ : ∃ h1, h1 = stI g 108 p (nI c) := ⟨_, rfl⟩
  have e1 : Eqv PH g h1 := by rw [hh1]; exact (Eqv.refl g).si (PH_o (by omega))
  have k1 := k.h e1
  have q := m_sumC k1
  unfold f_X11_readSum
  rw [bs_ (yr_80_49 g), bs_ (gi80 g 23), k.2.2.2.2.1, bs_ (si_108 g _ (by omega)), ← hh1, bs_ (gi80 h1 19), k1.2.1, if_pos rfl, bs_ (ck_80 h1)]
  revert q
  rcases sumS (tkK b t) (tkU b t) true 8 i lv with j | ⟨i', lv', d⟩
  · rintro ⟨h2, r2, e2, b2⟩
    rw [bs_ r2]
    dsimp only
    rw [bs_ (yr_80_49 h2), bs_ (gi80 h2 23), nI_1, bs_ (si_108 h2 _ hp)]
    have e3 : Eqv PH h2 (stI h2 108 (p + 1) (h2.2.1 80 23)) := (Eqv.refl h2).si (PH_o (by omega))
    exact ⟨_, rfl, (e1.mono PH_F).trans ((e2.mono PE_F).trans (e3.mono PH_F)), b2.h e3⟩
  · rintro ⟨h2, c2, r2, e2, k2, cd2, op2⟩
    rw [bs_ r2]
    dsimp only
    rw [bs_ (yr_80_49 h2), bs_ (gi80 h2 23), k2.2.2.2.2.1, nI_1, bs_ (si_108 h2 _ hp)]
    have e3 : Eqv PH h2 (stI h2 108 (p + 1) (nI c2)) := (Eqv.refl h2).si (PH_o (by omega))
    have z : ∀ j, h2.2.1 108 j = h1.2.1 108 j := fun j => e2.i 108 j (decide_eq_false (by omega))
    refine ⟨_, c2, rfl, (e1.mono PH_F).trans ((e2.mono PE_F).trans (e3.mono PH_F)), k2.h e3, ?_, ⟨?_, stI_s _ _ _ _, OpM.cong (s := some d) op2 (Cod.h e3)⟩, ?_, fun j h1' h2' => ?_⟩
    · exact ((Cod.h (c := c) e1).trans cd2 (Nat.le_refl _)).trans (Cod.h (c := c) e3) (Nat.le_refl _)
    · rw [ri_k (by omega), z, hh1, stI_s]
    · rw [ri_p (by decide), e2.i 80 21 rfl, hh1, ri_p (by decide)]
    · rw [ri_k h2', z, hh1, ri_k h1']
/-- behind the times -/
theorem m_217 {h g : AH} {b : Nat → Nat} {t n i lv c c' m x tm : Nat} {s1 s2 : Option DD} (e : Eqv PFr h g) (k : MB g b t n true i lv c') (hm : m < 12) (g21 : g.2.1 80 21 = nI (m + 1)) (cd : Cod h g c) (hc : c ≤ c') (o : ∀ j, j < 8 * m → g.2.1 108 j = h.2.1 108 j) (v0 : g.2.1 108 (8 * m) = nI (x - 266)) (v7 : g.2.1 108 (8 * m + 7) = nI tm) (hx : 266 ≤ x ∧ x ≤ 269 ∧ 1 ≤ tm ∧ tm ≤ 20) {i0 m1 : Nat} (q1 : SecM g (8 * m + 1) s1 i0 m1) (q2 : SecM g (8 * m + 3) s2 m1 c') : ROc h b t n m c (match ifS (tkK b t) (tkU b t) true i lv with
    | .inl j => .inl j
    | .inr (i2, lv2, t) => .inr (i2, lv2, x, (s1, s2, t), tm)) (f_X11_readOrder_j217 S_1 80 (nI (8 * m)) g) := by
  have l1 := q1.le
  have l2 := q2.le
  obtain ⟨g2, hg2⟩ : ∃ g2, g2 = stI g 108 (8 * m + 5) (nI c') := ⟨_, rfl⟩
  have e2 : Eqv PH g g2 := by
    rw [hg2]
    exact (Eqv.refl g).si (PH_o (by omega))
  have k2 := k.h e2
  have w5 : g2.2.1 108 (8 * m + 5) = nI c' := by rw [hg2, stI_s]
  have g221 : g2.2.1 80 21 = nI (m + 1) := by rw [hg2, ri_p (by decide)]; exact g21
  have wo : ∀ j, j ≠ 8 * m + 5 → g2.2.1 108 j = g.2.1 108 j := fun j hj => by rw [hg2, ri_k hj]
  have GG : ∀ u : AH, ((gR S_1 u 80 11 49).bind fun p_26 => (gI S_1 u 80 11 23).bind fun v_28 => (sI S_1 u p_26 (nI (8 * m) + (6 : Int32)) v_28).bind fun h_30 => some ((), h_30)) = some ((), stI u 108 (8 * m + 6) (u.2.1 80 23)) := fun u => by
    rw [bs_ (yr_80_49 u), bs_ (gi80 u 23), show nI (8 * m) + (6 : Int32) = nI (8 * m + 6) from nI_add _ 6, bs_ (si_108 u _ (by omega))]
  have E : f_X11_readOrder_j217 S_1 80 (nI (8 * m)) g = ((ckO S_1 g2 80 11).bind fun _ =>
    (f_X11_isWord S_1 80 (294 : Int64) g2).bind fun z => match z with
    | (z_24, h_23) =>
    if z_24 = (0 : Int32) then some ((), h_23)
    else
      (ckO S_1 h_23 80 11).bind fun _ =>
      (f_X11_next S_1 80 h_23).bind fun z => match z with
      | (_, h_33) =>
      (ckO S_1 h_33 80 11).bind fun _ =>
      (f_X11_readExpression S_1 80 (1 : Int32) h_33)).bind fun z => (gR S_1 z.2 80 11 49).bind fun p_26 => (gI S_1 z.2 80 11 23).bind fun v_28 => (sI S_1 z.2 p_26 (nI (8 * m) + (6 : Int32)) v_28).bind fun h_30 => some ((), h_30) := by
    unfold f_X11_readOrder_j217
    rw [bs_ (yr_80_49 g), bs_ (gi80 g 23), k.2.2.2.2.1, show nI (8 * m) + (5 : Int32) = nI (8 * m + 5) from nI_add _ 5, bs_ (si_108 g _ (by omega)), ← hg2, bs_ (gi80 g2 19), k2.2.1, if_pos rfl]
    exact m_ifB g2 fun u => (gR S_1 u 80 11 49).bind fun p_26 => (gI S_1 u 80 11 23).bind fun v_28 => (sI S_1 u p_26 (nI (8 * m) + (6 : Int32)) v_28).bind fun h_30 => some ((), h_30)
  rw [E]
  have q := m_if k2
  have E2 : Eqv PFr h g2 := e.trans (e2.mono PH_F)
  revert q
  rcases ifS (tkK b t) (tkU b t) true i lv with j | ⟨i2, lv2, tt⟩
  · rintro ⟨h3, r3, e3, b3⟩
    rw [bs_ r3, GG]
    have e4 : Eqv PH h3 (stI h3 108 (8 * m + 6) (h3.2.1 80 23)) := (Eqv.refl h3).si (PH_o (by omega))
    exact ⟨_, rfl, (E2.trans (e3.mono PE_F)).trans (e4.mono PH_F), b3.h e4⟩
  · rintro ⟨h3, c3, r3, e3, k3, cd3, tp3⟩
    have l3 := tp3.le
    rw [bs_ r3, GG, k3.2.2.2.2.1]
    have e4 : Eqv PH h3 (stI h3 108 (8 * m + 6) (nI c3)) := (Eqv.refl h3).si (PH_o (by omega))
    have z90 : ∀ j, h3.2.1 108 j = g2.2.1 108 j := fun j => e3.i 108 j (decide_eq_false (by omega))
    have cdA : Cod g (stI h3 108 (8 * m + 6) (nI c3)) c' := fun j hj => by
      have a := Cod.h (c := c') e2 j hj
      have b := cd3 j hj
      have d : (stI h3 108 (8 * m + 6) (nI c3)).2.1 91 j = h3.2.1 91 j ∧ (stI h3 108 (8 * m + 6) (nI c3)).2.1 92 j = h3.2.1 92 j := ⟨ri_p (by decide), ri_p (by decide)⟩
      exact ⟨d.1.trans (b.1.trans a.1), d.2.trans (b.2.trans a.2)⟩
    have zz : ∀ j, j ≠ 8 * m + 6 → j ≠ 8 * m + 5 → (stI h3 108 (8 * m + 6) (nI c3)).2.1 108 j = g.2.1 108 j := fun j hj hj2 => (ri_k hj).trans ((z90 j).trans (wo j hj2))
    refine ⟨_, c3, by omega, rfl, (E2.trans (e3.mono PE_F)).trans (e4.mono PH_F), k3.h e4, ?_, cd.trans (cdA.le hc) (Nat.le_refl c), fun j hj => (zz j (by omega) (by omega)).trans (o j hj), (zz _ (by omega) (by omega)).trans v0, (zz _ (by omega) (by omega)).trans v7, hx, i0, m1, c', c3, q1.cong (cdA.le l2) (zz _ (by omega) (by omega)) (zz _ (by omega) (by omega)), q2.cong cdA (zz _ (by omega) (by omega)) (zz _ (by omega) (by omega)), ?_, stI_s _ _ _ _, Nat.le_refl _, tp3.cong fun j _ => ⟨ri_p (by decide), ri_p (by decide)⟩⟩
    · rw [ri_p (by decide), e3.i 80 21 rfl]
      exact g221
    · rw [ri_k (by omega), z90]
      exact w5
