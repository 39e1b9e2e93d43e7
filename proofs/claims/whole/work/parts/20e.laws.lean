theorem clV_bars {c : Cl} {e : Nat → Int64} {v : Int64} (h : c.2.1 = none) (hv : clV c e = some v) : v = 1 := by
  unfold clV at hv
  rw [h] at hv
  cases et : c.2.2 with
  | none =>
    rw [et] at hv
    simp at hv
    exact hv.symm
  | some t =>
    rw [et] at hv
    cases ev : t e with
    | none => simp [ev] at hv
    | some x =>
      by_cases e0 : x = 0
      · simp [ev, e0] at hv
      · simp [ev, e0] at hv
        exact hv.symm
theorem m_tellsL {L n : Nat} {f : Nat → Cl} {k : Nat} (hk : k ≤ 2) (e : Nat → Int64) (l0 : Int64) : ∀ (m c fu : Nat) (h : AH), c + m = n → LawM h L n f → h.2.1 80 20 = 0 → h.2.1 80 34 = nI L → EnvM false h e →
    ∃ h', Eqv PS h h' ∧ f_X11_tells_l189 S_1 (fu + m + 1) 80 (nI k) ((toldS f k e c).getD l0) (nI c) h = some ((toldS f k e n).getD l0, h')
  | m, c, fu, h, hm, H, h20, h34, he => by
    obtain ⟨k1, k2, k3, k4⟩ := id H
    rw [f_X11_tells_l189]
    unfold f_X11_tells_l189b
    rw [bs_ (yr_80_3 h), bs_ (yi_80 h 34), h34, nI_1, bs_ (ai_82 h (by omega)), k3]
    match m, hm with
    | 0, hm =>
      have : c = n := by omega
      subst this
      rw [if_pos (Int32.le_refl _)]
      exact ⟨h, Eqv.refl h, rfl⟩
    | m + 1, hm =>
      obtain ⟨a1, a2, i, m', j, b1, b2, b3, b4, b5, b6, b7, b8⟩ := k4 c (by omega)
      rw [if_neg (show ¬ nI n ≤ nI c by rw [nn_le (by omega) (by omega)]; omega), bs_ (yi_80 h 34), h34, lt_e, show nI L + (2 : Int32) + (8 : Int32) * nI c = nI (L + 2 + 8 * c) by rw [show (2 : Int32) = nI 2 from rfl, show (8 : Int32) = nI 8 from rfl, pk_mul, nI_add, nI_add], bs_ (yr_80_3 h), bs_ (ai_82 h (by omega)), a2]
      have next : ∀ h1 l, Eqv PS h h1 → l = (toldS f k e (c + 1)).getD l0 → ∃ h', Eqv PS h h' ∧ lt (nI c + (1 : Int32)) (fun y => f_X11_tells_l189 S_1 (fu + (m + 1)) 80 (nI k) l y h1) = some ((toldS f k e n).getD l0, h') := fun h1 l e1 el => by
        obtain ⟨h', e2, r⟩ := m_tellsL hk e l0 m (c + 1) fu h1 (by omega) (H.s e1) ((e1.i _ _ PS_20).trans h20) ((e1.i _ _ PS_34).trans h34) (he.s e1)
        rw [lt_e, nI_1, el]
        exact ⟨h', e1.trans e2, r⟩
      by_cases ek : (f c).1 = k
      · obtain ⟨h1, e1, r1, r2⟩ := m_isSo h e H (show c < n by omega) h20 h34 he
        rw [if_pos (show nI (f c).1 = nI k by rw [ek]), bs_ (ck_80 h), bs_ r1]
        dsimp only
        cases ev : clV (f c) e with
        | none =>
          have tl : toldS f k e (c + 1) = toldS f k e c := by rw [toldS, if_pos ek, ev]
          rw [show (none : Option Int64).isSome = false from rfl, if_pos (show bI false = 0 from rfl)]
          exact next h1 _ e1 (by rw [tl])
        | some v =>
          have tl : toldS f k e (c + 1) = some v := by rw [toldS, if_pos ek, ev]
          rw [show (some v).isSome = true from rfl, if_neg (show ¬ bI true = 0 by decide)]
          by_cases e2 : k = 2
          · rw [if_pos (show nI k = 2 by rw [e2]; rfl)]
            refine next h1 _ e1 ?_
            rw [tl]
            show 1 = v
            refine (clV_bars (e := e) ?_ ev).symm
            cases es : (f c).2.1 with
            | none => rfl
            | some s =>
              rw [es] at b7
              exact absurd (ek.trans e2) b7.1
          · rw [if_neg (show ¬ nI k = 2 by rw [show (2 : Int32) = nI 2 from rfl, nn_eq (by omega) (by decide)]; exact e2), bs_ (yj_80 h1 40), r2 v ev (by omega)]
            exact next h1 _ e1 (by rw [tl]; rfl)
      · rw [if_neg (show ¬ nI (f c).1 = nI k by rw [nn_eq (by omega) (by omega)]; exact ek)]
        refine next h _ (Eqv.refl h) ?_
        have tl : toldS f k e (c + 1) = toldS f k e c := by
          show (if (f c).1 = k then _ else _) = _
          rw [if_neg ek]
        rw [tl]
termination_by m => m
