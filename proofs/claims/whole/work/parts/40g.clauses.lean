/-! reading: the other side's law, clause by clause -/
theorem m_readLaw {h : AH} {b : Nat → Nat} {t n i lv c m : Nat} (k : MB h b t n false i lv c) (e21 : h.2.1 80 21 = nI m) (hm : m ≤ 12) : RLc h b t n m c (if m < 12 then clauS (tkK b t) (tkU b t) false i lv else .inl i) (f_X11_readLaw S_1 80 h) := by
  obtain ⟨n1, n2, n3, n4, n5⟩ := k.n4
  have bad : ∀ x1 : Int32, RLc h b t n m c (.inl i) (f_X11_readLaw_j54 S_1 80 x1 80 0 h) := fun x1 => by
    obtain ⟨h1, r1, e1, b1⟩ := k.must0
    unfold f_X11_readLaw_j54
    rw [bs_ (ck_80 h), bs_ r1]
    dsimp only
    rw [bs_ (gi80 h1 19), b1.1, if_neg (by decide)]
    exact ⟨h1, rfl, e1.mono PE_F, b1⟩
  unfold f_X11_readLaw
  rw [bs_ (m_heads k.1.1 k.2.2.2.2.2.2 n5)]
  dsimp only
  by_cases c1 : 263 ≤ tkK b t i ∧ tkK b t i ≤ 265
  · rw [if_pos c1, if_neg (show ¬ nI (tkK b t i - 263) = (-1 : Int32) by rw [nl_m1 (by omega)]; exact id), bs_ (gi80 h 21), e21]
    by_cases c2 : m < 12
    · rw [if_pos c2, if_neg (show ¬ (12 : Int32) ≤ nI m by rw [show (12 : Int32) = nI 12 from rfl, nn_le (by decide) (by omega)]; omega)]
      obtain ⟨h1, r1, e1, k1⟩ := k.must1 (by omega)
      have m1 : h1.2.1 80 21 = nI m := (e1.i 80 21 rfl).trans e21
      unfold f_X11_readLaw_j54
      rw [bs_ (ck_80 h), bs_ r1]
      dsimp only
      rw [bs_ (gi80 h1 19), k1.2.1, if_pos rfl, bs_ (gi80 h1 21), m1, lt_e, show (8 : Int32) * nI m = nI (8 * m) from pk_mul 8 m]
      obtain ⟨h2, r2, e2, o2, z2⟩ := m_zero90 c2 (nI (tkK b t i - 263)) 8 0 h1 FU rfl (by unfold FU; omega)
      rw [bs_ (show f_X11_readLaw_l75 S_1 FU 80 (nI (tkK b t i - 263)) (nI (8 * m)) (0 : Int32) h1 = _ from r2)]
      dsimp only
      have k2 := k1.h e2
      have m2 : h2.2.1 80 21 = nI m := by rw [z2]; exact m1
      rw [bs_ (yr_80_22 h2), bs_ (si_90 h2 _ (by omega))]
      obtain ⟨h3, hh3⟩ : ∃ h3, h3 = stI h2 90 (8 * m) (nI (tkK b t i - 263)) := ⟨_, rfl⟩
      rw [← hh3, bs_ (gi80 h3 21), show h3.2.1 80 21 = nI m by rw [hh3, ri_p (by decide)]; exact m2, nI_1, bs_ (pi80 h3 21 _)]
      obtain ⟨h4, hh4⟩ : ∃ h4, h4 = stI h3 80 21 (nI (m + 1)) := ⟨_, rfl⟩
      have v23 : h4.2.1 80 23 = nI c := by rw [hh4, ri_k (by decide), hh3, ri_p (by decide)]; exact k2.2.2.2.2.1
      rw [← hh4, bs_ (yr_80_22 h4), bs_ (gi80 h4 23), v23, show nI (8 * m) + (3 : Int32) = nI (8 * m + 3) from nI_add _ 3, bs_ (si_90 h4 _ (by omega))]
      obtain ⟨h5, hh5⟩ : ∃ h5, h5 = stI h4 90 (8 * m + 3) (nI c) := ⟨_, rfl⟩
      have e5 : Eqv PH h2 h5 := by
        rw [hh5, hh4, hh3]
        exact (((Eqv.refl h2).si (PH_o (by omega))).si (PH_o (by omega))).si (PH_o (by omega))
      have k5 := k2.h e5
      have m5 : h5.2.1 80 21 = nI (m + 1) := by rw [hh5, ri_p (by decide), hh4, stI_s]
      have w0 : h5.2.1 90 (8 * m) = nI (tkK b t i - 263) := by rw [hh5, ri_k (by omega), hh4, ri_p (by decide), hh3, stI_s]
      have w3 : h5.2.1 90 (8 * m + 3) = nI c := by rw [hh5, stI_s]
      have o5 : ∀ j, j < 8 * m → h5.2.1 90 j = h.2.1 90 j := fun j hj => by
        rw [hh5, ri_k (by omega), hh4, ri_p (by decide), hh3, ri_k (by omega), o2 j hj]
        exact e1.i 90 j (decide_eq_false (by omega))
      have E5 : Eqv PFr h h5 := ((e1.mono PN_E).mono PE_F).trans ((e2.trans e5).mono PH_F)
      have cd5 : Cod h h5 c := (Cod.n e1).trans (Cod.h (c := c) (e2.trans e5)) (Nat.le_refl _)
      rw [← hh5]
      unfold clauS
      show RLc h b t n m c (match lawA (tkK b t) (tkU b t) i lv with
        | .inl j => .inl j
        | .inr (i1, lv1, s1, s2, tm) => match ifS (tkK b t) (tkU b t) false i1 lv1 with
          | .inl j => .inl j
          | .inr (i2, lv2, tt) => .inr (i2, lv2, tkK b t i, (s1, s2, tt), tm)) _
      unfold lawA
      rw [if_pos c1]
      by_cases c3 : tkK b t i = 265
      · rw [if_pos c3, if_pos (show nI (tkK b t i - 263) = (2 : Int32) by rw [c3]; rfl)]
        exact m_j135 (s := none) E5 k5 c2 m5 cd5 o5 w0 w3 ⟨c1.1, c1.2, fun _ => c3, fun _ => rfl⟩ rfl
      · rw [if_neg c3, if_neg (show ¬ nI (tkK b t i - 263) = (2 : Int32) by rw [show (2 : Int32) = nI 2 from rfl, nn_eq (by omega) (by decide)]; omega), bs_ (ck_80 h5)]
        have q := m_sumC k5
        revert q
        rcases sumS (tkK b t) (tkU b t) false 8 (i + 1) lv with j | ⟨i', lv', d⟩
        · rintro ⟨h6, r6, e6, b6⟩
          rw [bs_ r6]
          dsimp only
          -- it failed: what is put down is not looked at
          have w : ∀ u v : AH, Eqv PH u v → u.2.1 80 19 = 1 → v.2.1 80 19 = 1 := fun u v e z => (e.i 80 19 rfl).trans z
          unfold f_X11_readLaw_j135
          rw [bs_ (yr_80_22 h6), bs_ (gi80 h6 23), show nI (8 * m) + (4 : Int32) = nI (8 * m + 4) from nI_add _ 4, bs_ (si_90 h6 _ (by omega))]
          obtain ⟨h7, hh7⟩ : ∃ h7, h7 = stI h6 90 (8 * m + 4) (h6.2.1 80 23) := ⟨_, rfl⟩
          rw [← hh7, bs_ (yr_80_22 h7), bs_ (gi80 h7 23), show nI (8 * m) + (5 : Int32) = nI (8 * m + 5) from nI_add _ 5, bs_ (si_90 h7 _ (by omega))]
          obtain ⟨h8, hh8⟩ : ∃ h8, h8 = stI h7 90 (8 * m + 5) (h7.2.1 80 23) := ⟨_, rfl⟩
          have e8 : Eqv PH h6 h8 := by
            rw [hh8, hh7]
            exact ((Eqv.refl h6).si (PH_o (by omega))).si (PH_o (by omega))
          have b8 := b6.h e8
          rw [← hh8, bs_ (gi80 h8 19), b8.1, if_neg (by decide), bs_ (yr_80_22 h8), bs_ (gi80 h8 23), show nI (8 * m) + (6 : Int32) = nI (8 * m + 6) from nI_add _ 6, bs_ (si_90 h8 _ (by omega))]
          have e9 : Eqv PH h8 (stI h8 90 (8 * m + 6) (h8.2.1 80 23)) := (Eqv.refl h8).si (PH_o (by omega))
          exact ⟨_, rfl, E5.trans ((e6.mono PE_F).trans ((e8.trans e9).mono PH_F)), b8.h e9⟩
        · rintro ⟨h6, c6, r6, e6, k6, cd6, op6⟩
          rw [bs_ r6]
          dsimp only
          have z90 : ∀ j, h6.2.1 90 j = h5.2.1 90 j := fun j => e6.i 90 j (decide_eq_false (by omega))
          exact m_j135 (s := some d) (E5.trans (e6.mono PE_F)) k6 c2 ((e6.i 80 21 rfl).trans m5) (cd5.trans cd6 (Nat.le_refl _)) (fun j hj => (z90 j).trans (o5 j hj)) ((z90 _).trans w0) ((z90 _).trans w3) ⟨c1.1, c1.2, (fun z => by cases z), fun z => absurd z c3⟩ op6
    · rw [if_neg c2, if_pos (show (12 : Int32) ≤ nI m by rw [show (12 : Int32) = nI 12 from rfl, nn_le (by decide) (by omega)]; omega)]
      exact bad _
  · rw [if_neg c1, if_pos rfl]
    have : (if m < 12 then clauS (tkK b t) (tkU b t) false i lv else .inl i) = .inl i := by
      by_cases c2 : m < 12
      · rw [if_pos c2]
        unfold clauS
        show (match lawA (tkK b t) (tkU b t) i lv with
          | .inl j => .inl j
          | .inr (i1, lv1, s1, s2, tm) => match ifS (tkK b t) (tkU b t) false i1 lv1 with
            | .inl j => .inl j
            | .inr (i2, lv2, tt) => .inr (i2, lv2, tkK b t i, (s1, s2, tt), tm) : Nat ⊕ (Nat × Nat × Co)) = .inl i
        unfold lawA
        rw [if_neg c1]
      · rw [if_neg c2]
    rw [this]
    exact bad _
/-- the whole text -/
def HdLs (h : AH) (m : Nat) (f : Nat → Co) (c : Nat) : Prop := ∀ y, y < m → HdL h y (f y) c
theorem HdL.cong {h h' : AH} {y c c' : Nat} {x : Co} (k : HdL h y x c) (hc : c ≤ c') (e : Cod h h' c) (e2 : ∀ j, j < 8 * y + 8 → h'.2.1 90 j = h.2.1 90 j) : HdL h' y x c' := by
  obtain ⟨k1, k2, i, m, j, a1, a2, a3, a4, a5, a6, a7⟩ := k
  have l1 := a7.le
  exact ⟨(e2 _ (by omega)).trans k1, k2, i, m, j, (e2 _ (by omega)).trans a1, (e2 _ (by omega)).trans a2, (e2 _ (by omega)).trans a3, (e2 _ (by omega)).trans a4, by omega, a6.cong (e.le (by omega)), a7.cong (e.le (by omega))⟩
def RLt (h : AH) (b : Nat → Nat) (t n : Nat) (r : Nat ⊕ (Nat × (Nat → Co))) (res : Option (Nat × AH)) : Prop := match r with
  | .inl j => ∃ h', res = some (80, h') ∧ Eqv PFr h h' ∧ (BadE h' b t j ∨ ∃ lv c, MB h' b t n false j lv c ∧ tkK b t j ≠ 59 ∧ tkK b t j ≠ 285)
  | .inr (m', f') => ∃ h' c' i' lv', res = some (80, h') ∧ Eqv PFr h h' ∧ MB h' b t n false i' lv' c' ∧ tkK b t i' = 285 ∧ h'.2.1 80 21 = nI m' ∧ m' ≤ 12 ∧ HdLs h' m' f' c'
theorem RLt.from {h h1 : AH} {b : Nat → Nat} {t n : Nat} {r : Nat ⊕ (Nat × (Nat → Co))} {res : Option (Nat × AH)} (e : Eqv PFr h h1) (k : RLt h1 b t n r res) : RLt h b t n r res := by
  rcases r with j | ⟨m', f'⟩
  · obtain ⟨h', a, b, c⟩ := k
    exact ⟨h', a, e.trans b, c⟩
  · obtain ⟨h', c', i', lv', a, b, c⟩ := k
    exact ⟨h', c', i', lv', a, e.trans b, c⟩
theorem m_lawT {b : Nat → Nat} {t n : Nat} : ∀ (r m : Nat) (f : Nat → Co) (i lv c : Nat) (h : AH) (F : Nat), r + m = 12 → r + 1 < F → MB h b t n false i lv c → h.2.1 80 21 = nI m → HdLs h m f c → RLt h b t n (textS (tkK b t) (tkU b t) false r m f i lv) ((f_X11_readLaw S_1 80 h).bind fun z => f_X11_law_l37 S_1 F 80 z.2) := by
  intro r
  induction r with
  | zero =>
    intro m f i lv c h F hr hF k e21 hh
    obtain ⟨F, rfl⟩ : ∃ x, F = x + 1 := ⟨F - 1, by omega⟩
    have q := m_readLaw k e21 (by omega)
    rw [if_neg (show ¬ m < 12 by omega)] at q
    obtain ⟨h1, r1, e1, b1⟩ := q
    rw [bs_ r1, textS]
    refine ⟨h1, ?_, e1, Or.inl b1⟩
    rw [f_X11_law_l37]
    unfold f_X11_law_l37b
    rw [bs_ (gi80 h1 19), b1.1, if_neg (by decide)]
  | succ r ih =>
    intro m f i lv c h F hr hF k e21 hh
    obtain ⟨F, rfl⟩ : ∃ x, F = x + 1 := ⟨F - 1, by omega⟩
    have q := m_readLaw k e21 (by omega)
    rw [if_pos (show m < 12 by omega)] at q
    have gg := clau_go (U := tkU b t) (ord := false) k.1.2.1 k.1.2.2 k.2.2.2.1.2
    rw [textS]
    revert q gg
    rcases clauS (tkK b t) (tkU b t) false i lv with j | ⟨i', lv', x⟩
    · rintro ⟨h1, r1, e1, b1⟩ -
      rw [bs_ r1]
      refine ⟨h1, ?_, e1, Or.inl b1⟩
      rw [f_X11_law_l37]
      unfold f_X11_law_l37b
      rw [bs_ (gi80 h1 19), b1.1, if_neg (by decide)]
    · rintro ⟨h1, c1, le1, r1, e1, k1, m1, cd1, o1, hd1⟩ ⟨g1, g2, g3, g4⟩
      have ss : HdLs h1 (m + 1) (fun c => if c = m then x else f c) c1 := fun y hy => by
        by_cases ey : y = m
        · subst ey
          show HdL h1 y (if y = y then x else f y) c1
          rw [if_pos rfl]
          exact hd1
        · show HdL h1 y (if y = m then x else f y) c1
          rw [if_neg ey]
          exact (hh y (by omega)).cong le1 cd1 fun j hj => o1 j (by omega)
      rw [bs_ r1, f_X11_law_l37]
      unfold f_X11_law_l37b
      rw [bs_ (gi80 h1 19), k1.2.1, if_pos rfl, bs_ (ck_80 h1), bs_ (show f_X11_isSign S_1 80 (59 : Int32) h1 = _ from m_isSign (x := 59) k1.1.1 (by decide) (by decide))]
      dsimp only
      by_cases c59 : tkK b t i' = 59
      · obtain ⟨h2, r2, e2, k2⟩ := k1.next (by omega)
        rw [if_pos c59, decide_eq_true c59, if_neg (show ¬ bI true = 0 by decide), bs_ (ck_80 h1), bs_ r2]
        dsimp only
        rw [bs_ (ck_80 h2)]
        refine RLt.from (e1.trans ((e2.mono PN_E).mono PE_F)) (ih (m + 1) _ (i' + 1) lv' c1 h2 F (by omega) (by omega) k2 ((e2.i 80 21 rfl).trans m1) fun y hy => (ss y hy).cong (Nat.le_refl _) (Cod.n e2) fun j _ => e2.i 90 j (decide_eq_false (by omega)))
      · rw [if_neg c59, decide_eq_false c59, if_pos (show bI false = 0 from rfl)]
        by_cases c285 : tkK b t i' = 285
        · rw [if_pos c285]
          exact ⟨h1, c1, i', lv', rfl, e1, k1, c285, m1, by omega, ss⟩
        · rw [if_neg c285]
          exact ⟨h1, rfl, e1, Or.inr ⟨lv', c1, k1, c59, c285⟩⟩
