/-! reading: the other side's orders, clause by clause -/
theorem MB.number {h : AH} {b : Nat → Nat} {t n i lv c : Nat} {ord : Bool} (k : MB h b t n ord i lv c) {x y : Nat} (hy : y ≤ 1000) (hx : x ≤ y) : (tkK b t i = 284 ∧ x ≤ tkU b t i ∧ tkU b t i ≤ y ∧ ∃ h', f_X11_number S_1 80 (oJ x) (oJ y) h = some (nI (tkU b t i), h') ∧ Eqv PN h h' ∧ MB h' b t n ord (i + 1) lv c) ∨ (¬ (tkK b t i = 284 ∧ x ≤ tkU b t i ∧ tkU b t i ≤ y) ∧ ∃ h' v, f_X11_number S_1 80 (oJ x) (oJ y) h = some (v, h') ∧ Eqv PE h h' ∧ BadE h' b t i) := by
  obtain ⟨d1, d2, d3, d4⟩ := m_digitsAt k.1.1
  have bad : ∀ v : Int32, ∃ h' , ((ckO S_1 h 80 11).bind fun _ => (f_X11_must S_1 80 (0 : Int32) h).bind fun z => match z with | (_, h_16) => some (v, h_16)) = some (v, h') ∧ Eqv PE h h' ∧ BadE h' b t i := fun v => by
    obtain ⟨h1, r1, e1, m1⟩ := k.must0
    rw [bs_ (ck_80 h), bs_ r1]
    exact ⟨h1, rfl, e1, m1⟩
  unfold f_X11_number
  rw [bs_ (gj80 h 17), lt_e, bs_ (gi80 h 16)]
  by_cases c1 : tkK b t i = 284
  · obtain ⟨u, u1, u2, u3, u4⟩ := d4 c1
    rw [if_pos (d1.mpr c1), bs_ (gj80 h 17), u2, bs_ (in_J S_1 h (by omega) (by omega) (by omega))]
    dsimp only
    by_cases c2 : x ≤ tkU b t i ∧ tkU b t i ≤ y
    · have eu := u3 (by omega)
      obtain ⟨h1, r1, e1, m1⟩ := k.must1 (by omega)
      refine Or.inl ⟨c1, c2.1, c2.2, h1, ?_, e1, m1⟩
      rw [decide_eq_true (show x ≤ u ∧ u ≤ y by omega), if_neg (show ¬ bI true = 0 by decide), bs_ (ck_80 h), bs_ r1, eu, oJ_32 (by omega)]
    · have : ¬ (x ≤ u ∧ u ≤ y) := by
        by_cases c3 : tkU b t i ≤ 1000
        · have := u3 c3
          omega
        · have := u4 (by omega)
          omega
      refine Or.inr ⟨fun z => c2 z.2, ?_⟩
      rw [decide_eq_false this, if_pos (show bI false = 0 from rfl)]
      obtain ⟨h', z⟩ := bad (Int64.toInt32 (oJ u))
      exact ⟨h', _, z⟩
  · refine Or.inr ⟨fun z => c1 z.1, ?_⟩
    rw [if_neg (fun z => c1 (d1.mp z))]
    obtain ⟨h', z⟩ := bad (Int64.toInt32 (h.2.2.1 80 17))
    exact ⟨h', _, z⟩
def fin3 (K U : Nat → Nat) (x : Nat) (r : Nat ⊕ (Nat × Nat × Option DD × Option DD × Nat)) : Nat ⊕ (Nat × Nat × Co) := match r with
  | .inl j => .inl j
  | .inr (i1, lv1, s1, s2, tm) => match ifS K U true i1 lv1 with
    | .inl j => .inl j
    | .inr (i2, lv2, t) => .inr (i2, lv2, x, (s1, s2, t), tm)
theorem m_169 {h g : AH} {b : Nat → Nat} {t n i lv c c' m x : Nat} {s1 s2 : Option DD} (e : Eqv PFr h g) (k : MB g b t n true i lv c') (hm : m < 12) (g21 : g.2.1 80 21 = nI (m + 1)) (cd : Cod h g c) (hc : c ≤ c') (o : ∀ j, j < 8 * m → g.2.1 108 j = h.2.1 108 j) (v0 : g.2.1 108 (8 * m) = nI (x - 266)) (hx : 266 ≤ x ∧ x ≤ 269) {i0 m1 : Nat} (q1 : SecM g (8 * m + 1) s1 i0 m1) (q2 : SecM g (8 * m + 3) s2 m1 c') : ROc h b t n m c (fin3 (tkK b t) (tkU b t) x (timS (tkK b t) (tkU b t) i lv s1 s2)) (f_X11_readOrder_j169 S_1 80 (nI (8 * m)) g) := by
  have l1 := q1.le
  have l2 := q2.le
  have e7 : nI (8 * m) + (7 : Int32) = nI (8 * m + 7) := nI_add _ 7
  obtain ⟨g1, hg1⟩ : ∃ g1, g1 = stI g 108 (8 * m + 7) 1 := ⟨_, rfl⟩
  have e1 : Eqv PH g g1 := by rw [hg1]; exact (Eqv.refl g).si (PH_o (by omega))
  have k1 := k.h e1
  have g121 : g1.2.1 80 21 = nI (m + 1) := by rw [hg1, ri_p (by decide)]; exact g21
  have w7 : g1.2.1 108 (8 * m + 7) = nI 1 := by rw [hg1, stI_s]; rfl
  have wo : ∀ j, j ≠ 8 * m + 7 → g1.2.1 108 j = g.2.1 108 j := fun j hj => by rw [hg1, ri_k hj]
  have c1 : ∀ y, Cod g g1 y := fun y => Cod.h e1
  unfold f_X11_readOrder_j169 timS
  rw [bs_ (yr_80_49 g), e7, bs_ (si_108 g _ (by omega)), ← hg1, bs_ (gi80 g1 19), k1.2.1, if_pos rfl, bs_ (ck_80 g1), bs_ (show f_X11_isWord S_1 80 (21279923 : Int64) g1 = _ from m_isWord (k := 4) k1.1.1 (by decide))]
  dsimp only
  by_cases c60 : tkK b t i = 260
  · rw [if_pos c60, decide_eq_true (show tkK b t i = 256 + 4 from c60), if_neg (show ¬ bI true = 0 by decide), bs_ (ck_80 g1)]
    obtain ⟨g2, r2, e2, k2⟩ := k1.next (by omega)
    rw [bs_ r2]
    dsimp only
    rw [bs_ (yr_80_49 g2), bs_ (ck_80 g2)]
    have z2 : ∀ j, g2.2.1 108 j = g1.2.1 108 j := fun j => e2.i 108 j (decide_eq_false (by omega))
    rcases k2.number (x := 1) (y := 20) (by decide) (by decide) with ⟨n1, n2, n3, g3, r3, e3, k3⟩ | ⟨nn, g3, v, r3, e3, b3⟩
    · rw [if_pos ⟨n1, n2, n3⟩, bs_ (show f_X11_number S_1 80 (1 : Int64) (20 : Int64) g2 = _ from r3)]
      dsimp only
      rw [bs_ (si_108 g3 _ (by omega))]
      obtain ⟨g4, hg4⟩ : ∃ g4, g4 = stI g3 108 (8 * m + 7) (nI (tkU b t (i + 1))) := ⟨_, rfl⟩
      have e4 : Eqv PH g3 g4 := by rw [hg4]; exact (Eqv.refl g3).si (PH_o (by omega))
      have z3 : ∀ j, g3.2.1 108 j = g2.2.1 108 j := fun j => e3.i 108 j (decide_eq_false (by omega))
      have zz : ∀ j, j ≠ 8 * m + 7 → g4.2.1 108 j = g.2.1 108 j := fun j hj => by rw [hg4, ri_k hj, z3, z2, wo j hj]
      have cc : ∀ y, Cod g g4 y := fun y => (((c1 y).trans (Cod.n (c := y) e2) (Nat.le_refl _)).trans (Cod.n (c := y) e3) (Nat.le_refl _)).trans (Cod.h (c := y) e4) (Nat.le_refl _)
      rw [← hg4]
      refine m_217 (((e.trans (e1.mono PH_F)).trans ((e2.mono PN_E).mono PE_F)).trans (((e3.mono PN_E).mono PE_F).trans (e4.mono PH_F))) (k3.h e4) hm ?_ (cd.trans (cc c) (Nat.le_refl _)) hc (fun j hj => (zz j (by omega)).trans (o j hj)) ((zz _ (by omega)).trans v0) ?_ ⟨hx.1, hx.2, n2, n3⟩ (q1.cong (cc _) (zz _ (by omega)) (zz _ (by omega))) (q2.cong (cc _) (zz _ (by omega)) (zz _ (by omega)))
      · rw [hg4, ri_p (by decide), e3.i 80 21 rfl, e2.i 80 21 rfl]; exact g121
      · rw [hg4, stI_s]
    · rw [if_neg nn, bs_ (show f_X11_number S_1 80 (1 : Int64) (20 : Int64) g2 = _ from r3)]
      dsimp only
      rw [bs_ (si_108 g3 _ (by omega))]
      have e4 : Eqv PH g3 (stI g3 108 (8 * m + 7) v) := (Eqv.refl g3).si (PH_o (by omega))
      obtain ⟨g5, r5, e5⟩ := bad_217 (b3.h e4) hm
      exact ⟨g5, r5, ((e.trans (e1.mono PH_F)).trans ((e2.mono PN_E).mono PE_F)).trans ((e3.mono PE_F).trans ((e4.trans e5).mono PH_F)), (b3.h e4).h e5⟩
  · rw [if_neg c60, decide_eq_false (show ¬ tkK b t i = 256 + 4 from c60), if_pos (show bI false = 0 from rfl)]
    exact m_217 (e.trans (e1.mono PH_F)) k1 hm g121 (cd.trans (c1 c) (Nat.le_refl _)) hc (fun j hj => (wo j (by omega)).trans (o j hj)) ((wo _ (by omega)).trans v0) w7 ⟨hx.1, hx.2, by decide, by decide⟩ (q1.cong (c1 _) (wo _ (by omega)) (wo _ (by omega))) (q2.cong (c1 _) (wo _ (by omega)) (wo _ (by omega)))
theorem m_125 {h g : AH} {b : Nat → Nat} {t n i lv c c' m x : Nat} {s1 : Option DD} (e : Eqv PFr h g) (k : MB g b t n true i lv c') (hm : m < 12) (g21 : g.2.1 80 21 = nI (m + 1)) (cd : Cod h g c) (hc : c ≤ c') (o : ∀ j, j < 8 * m → g.2.1 108 j = h.2.1 108 j) (v0 : g.2.1 108 (8 * m) = nI (x - 266)) (hx : 266 ≤ x ∧ x ≤ 269) {i0 : Nat} (q1 : SecM g (8 * m + 1) s1 i0 c') (v3 : g.2.1 108 (8 * m + 3) = 0 ∧ g.2.1 108 (8 * m + 4) = 0) : ROc h b t n m c (fin3 (tkK b t) (tkU b t) x (sec2S (tkK b t) (tkU b t) x i lv s1)) (f_X11_readOrder_j125 S_1 80 (nI (x - 266)) (nI (8 * m)) g) := by
  have nx : ∀ y : Nat, y < 10 → (nI (x - 266) = nI y) = (x - 266 = y) := fun y hy => nn_eq (by omega) (by omega)
  have j134 : (x = 266 ∨ x = 268) → ROc h b t n m c (fin3 (tkK b t) (tkU b t) x (sec2S (tkK b t) (tkU b t) x i lv s1)) (f_X11_readOrder_j134 S_1 80 (nI (x - 266)) (nI (8 * m)) g) := fun hx2 => by
    unfold sec2S
    rw [if_pos hx2]
    -- the word; then the sum
    have j156 : ∀ (w : Nat) (W : Int64), w < 27 → W = HWc w → 256 + w = (if x = 266 then 261 else 262) → ROc h b t n m c (fin3 (tkK b t) (tkU b t) x (if tkK b t i = (if x = 266 then 261 else 262) then (match sumS (tkK b t) (tkU b t) true 8 (i + 1) lv with
        | .inl j => .inl j
        | .inr (i', lv', d) => timS (tkK b t) (tkU b t) i' lv' s1 (some d)) else .inl i)) (f_X11_readOrder_j156 S_1 80 (nI (8 * m)) 80 80 W g) := fun w W hw hW he => by
      unfold f_X11_readOrder_j156
      rw [bs_ (ck_80 g), hW, bs_ (m_isWord k.1.1 hw), ← he]
      dsimp only
      rw [bs_ (ck_80 g)]
      by_cases cw : tkK b t i = 256 + w
      · rw [if_pos cw, decide_eq_true cw]
        obtain ⟨g1, r1, e1, k1⟩ := k.must1 (by omega)
        rw [bs_ (show f_X11_must S_1 80 (bI true) g = _ from r1)]
        dsimp only
        unfold f_X11_readOrder_j162
        rw [bs_ (ck_80 g1), show nI (8 * m) + (3 : Int32) = nI (8 * m + 3) from nI_add _ 3]
        have q := m_readSum (p := 8 * m + 3) k1 (by omega)
        have z1 : ∀ j, g1.2.1 108 j = g.2.1 108 j := fun j => e1.i 108 j (decide_eq_false (by omega))
        revert q
        rcases sumS (tkK b t) (tkU b t) true 8 (i + 1) lv with j | ⟨i', lv', d⟩
        · rintro ⟨g2, r2, e2, b2⟩
          rw [bs_ r2]
          dsimp only
          obtain ⟨g3, r3, e3⟩ := bad_169 b2 hm
          exact ⟨g3, r3, (e.trans ((e1.mono PN_E).mono PE_F)).trans (e2.trans (e3.mono PH_F)), b2.h e3⟩
        · rintro ⟨g2, c2, r2, e2, k2, cd2, sc2, u2, o2⟩
          have l2 := sc2.le
          rw [bs_ r2]
          dsimp only
          have zz : ∀ j, j ≠ 8 * m + 3 → j ≠ 8 * m + 4 → g2.2.1 108 j = g.2.1 108 j := fun j h1 h2 => (o2 j h1 h2).trans (z1 j)
          have cc : Cod g g2 c' := (Cod.n e1).trans cd2 (Nat.le_refl _)
          exact m_169 ((e.trans ((e1.mono PN_E).mono PE_F)).trans e2) k2 hm (u2.trans ((e1.i 80 21 rfl).trans g21)) (cd.trans (cc.le hc) (Nat.le_refl _)) (by omega) (fun j hj => (zz j (by omega) (by omega)).trans (o j hj)) ((zz _ (by omega) (by omega)).trans v0) hx (q1.cong cc (zz _ (by omega) (by omega)) (zz _ (by omega) (by omega))) sc2
      · rw [if_neg cw, decide_eq_false cw]
        obtain ⟨g1, r1, e1, b1⟩ := k.must0
        rw [bs_ (show f_X11_must S_1 80 (bI false) g = _ from r1)]
        dsimp only
        obtain ⟨g3, r3, e3⟩ := bad_162 b1 hm
        exact ⟨g3, r3, e.trans ((e1.mono PE_F).trans (e3.mono PH_F)), b1.h e3⟩
    unfold f_X11_readOrder_j134
    rw [bs_ (gi80 g 19), k.2.1, if_pos rfl]
    by_cases c2 : x = 266
    · rw [if_pos (show nI (x - 266) = (0 : Int32) by rw [c2]; rfl)]
      exact j156 5 _ (by decide) (by decide) (by rw [if_pos c2])
    · rw [if_neg (show ¬ nI (x - 266) = (0 : Int32) by rw [show (0 : Int32) = nI 0 from rfl, nx 0 (by decide)]; omega)]
      exact j156 6 _ (by decide) (by decide) (by rw [if_neg c2])
  unfold f_X11_readOrder_j125
  by_cases c2 : x = 266
  · rw [if_pos (show nI (x - 266) = (0 : Int32) by rw [c2]; rfl)]
    exact j134 (Or.inl c2)
  · rw [if_neg (show ¬ nI (x - 266) = (0 : Int32) by rw [show (0 : Int32) = nI 0 from rfl, nx 0 (by decide)]; omega)]
    by_cases c3 : x = 268
    · rw [if_pos (show nI (x - 266) = (2 : Int32) by rw [c3]; rfl)]
      exact j134 (Or.inr c3)
    · rw [if_neg (show ¬ nI (x - 266) = (2 : Int32) by rw [show (2 : Int32) = nI 2 from rfl, nx 2 (by decide)]; omega)]
      unfold sec2S
      rw [if_neg (show ¬ (x = 266 ∨ x = 268) by omega)]
      exact m_169 (s2 := none) e k hm g21 cd hc o v0 hx q1 ⟨rfl, v3.1, v3.2⟩
