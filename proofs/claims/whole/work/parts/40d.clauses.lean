/-! reading: the class's text -/
def TpX (cd : Nat → Int32) (s : Option DD) (i j : Nat) : Prop := match s with
  | none => i = j
  | some d => ∃ N L, L ≤ 50 ∧ TstX cd N i j d L
theorem TpX.cong {cd cd' : Nat → Int32} {s : Option DD} {i j : Nat} (k : TpX cd s i j) (e : ∀ t, t < j → cd' t = cd t) : TpX cd' s i j := by
  rcases s with _ | d
  · exact k
  · obtain ⟨N, L, k1, k2⟩ := k
    exact ⟨N, L, k1, k2.cong fun t _ ht => e t ht⟩
theorem TpX.le {cd : Nat → Int32} {s : Option DD} {i j : Nat} (k : TpX cd s i j) : i ≤ j := by
  rcases s with _ | d
  · exact Nat.le_of_eq k
  · obtain ⟨N, L, k1, k2⟩ := k
    have := k2.lt
    omega
/-- a clause that is read -/
def HdF (cd hd : Nat → Int32) (t : Nat) (x : Co) (c : Nat) : Prop := hd (6 * t) = nI x.1 ∧ hd (6 * t + 1) = nI x.2.2 ∧ ∃ i m1 m2 j, hd (6 * t + 2) = nI i ∧ hd (6 * t + 3) = nI m1 ∧ hd (6 * t + 4) = nI m2 ∧ hd (6 * t + 5) = nI j ∧ j ≤ c ∧ OpX cd x.2.1.1 i m1 ∧ OpX cd x.2.1.2.1 m1 m2 ∧ TpX cd x.2.1.2.2 m2 j
theorem HdF.cong {cd hd cd' hd' : Nat → Int32} {t c c' : Nat} {x : Co} (k : HdF cd hd t x c) (hc : c ≤ c') (e : ∀ j, j < c → cd' j = cd j) (e2 : ∀ j, j < 6 * t + 6 → hd' j = hd j) : HdF cd' hd' t x c' := by
  obtain ⟨k1, k2, i, m1, m2, j, a1, a2, a3, a4, a5, a6, a7, a8⟩ := k
  have l1 := a7.le
  have l2 := a8.le
  exact ⟨(e2 _ (by omega)).trans k1, (e2 _ (by omega)).trans k2, i, m1, m2, j, (e2 _ (by omega)).trans a1, (e2 _ (by omega)).trans a2, (e2 _ (by omega)).trans a3, (e2 _ (by omega)).trans a4, by omega, a6.cong fun t ht => e t (by omega), a7.cong fun t ht => e t (by omega), a8.cong fun t ht => e t (by omega)⟩
def RTx (h : AH) (n : Nat) (r : Nat ⊕ (Nat × (Nat → Co))) (res : Option ((Int32 ⊕ Unit) × AH)) : Prop := match r with
  | .inl j => ∃ h', (res = some (.inl 0, h') ∨ res = some (.inr (), h')) ∧ Eqv PCh h h' ∧ h'.2.1 45 3 = nI j ∧ j ≤ n
  | .inr (m', f') => ∃ h' c', res = some (.inl 1, h') ∧ Eqv PCh h h' ∧ h'.2.1 50 2 = nI c' ∧ c' ≤ 400 ∧ h'.2.1 50 3 = nI m' ∧ 1 ≤ m' ∧ m' ≤ 12 ∧ ∀ t, t < m' → HdF (h'.2.1 51) (h'.2.1 52) t (f' t) c'
theorem RTx.from {h h1 : AH} {n : Nat} {r : Nat ⊕ (Nat × (Nat → Co))} {res : Option ((Int32 ⊕ Unit) × AH)} (e : Eqv PCh h h1) (k : RTx h1 n r res) : RTx h n r res := by
  rcases r with j | ⟨m', f'⟩
  · obtain ⟨h', a, b, c⟩ := k
    exact ⟨h', a, e.trans b, c⟩
  · obtain ⟨h', c', a, b, c⟩ := k
    exact ⟨h', c', a, e.trans b, c⟩
theorem q_if {g : AH} {K U : Nat → Nat} {n i lv c : Nat} {ord : Bool} (cs : CS g K U n ord i lv c) (rc : Nat → Int32 → AH → Option ((Int32 ⊕ Unit) × AH)) (x4 : Int32) : match ifS K U ord i lv with
  | .inl j => ∃ h', f_X3_read_l43_j103 S_1 rc 45 x4 g = some (.inl 0, h') ∧ Eqv PCr g h' ∧ h'.2.1 45 3 = nI j
  | .inr (i2, lv2, t) => ∃ h' c2, f_X3_read_l43_j103 S_1 rc 45 x4 g = f_X3_read_l43_j127 S_1 rc 45 x4 h' ∧ Eqv PCr g h' ∧ CS h' K U n ord i2 lv2 c2 ∧ (∀ j, j < c → h'.2.1 51 j = g.2.1 51 j) ∧ TpX (h'.2.1 51) t c c2 := by
  obtain ⟨n1, n2, n3, n4, n5⟩ := cs.n4
  unfold f_X3_read_l43_j103 ifS
  rw [bs_ (ck_45' g), bs_ (q_kind cs.1 n2 cs.2.2.2.1)]
  dsimp only
  by_cases c1 : K i = 259
  · rw [if_pos c1, if_pos (show nI (K i) = (259 : Int32) by rw [c1]; rfl), bs_ (ck_45' g)]
    obtain ⟨r1, cs1, e1⟩ := cs.nx (by omega)
    have o1 : ∀ j, (stI g 45 3 (nI (i + 1))).2.1 51 j = g.2.1 51 j := fun j => ri_p (by decide)
    rw [bs_ r1]
    dsimp only
    generalize stI g 45 3 (nI (i + 1)) = g1 at cs1 e1 o1
    obtain ⟨k1, k2, k3, k4, k5⟩ := cs1.n4
    rw [bs_ (ck_45' g1)]
    have q := q_test 8 80 0 g1 (i + 1) lv c rfl (by decide) cs1
    have gg := test_go (U := U) (ord := ord) cs.2.1 8 (i + 1) lv k2
    unfold optS
    revert q gg
    rcases testS K U ord 8 (i + 1) lv with j | ⟨i', lv', d⟩
    · rintro ⟨h', r, e, v⟩ -
      rw [bs_ (show f_P S_1 80 0 45 (0 : Int32) g1 = _ from r)]
      dsimp only
      rw [if_pos rfl]
      exact ⟨h', rfl, e1.trans e, v⟩
    · rintro ⟨h', c', r, e, v3, v4, v5, v6, v7, N, s⟩ ⟨g1', g2, g3, g4⟩
      rw [bs_ (show f_P S_1 80 0 45 (0 : Int32) g1 = _ from r)]
      dsimp only
      rw [if_neg (show ¬ (1 : Int32) = 0 by decide)]
      exact ⟨h', c', rfl, e1.trans e, cs1.to e v3 g2 v4 g4 v5 (by omega), fun j hj => (v7 j hj).trans (o1 j), N, lv' - lv, by omega, s⟩
  · rw [if_neg c1, if_neg (show ¬ nI (K i) = (259 : Int32) by rw [show (259 : Int32) = nI 259 from rfl, nn_eq (by omega) (by decide)]; exact c1)]
    exact ⟨g, c, rfl, Eqv.refl g, cs, fun j _ => rfl, rfl⟩
theorem q_text {K U : Nat → Nat} {n : Nat} {ord : Bool} : ∀ (r m : Nat) (f : Nat → Co) (i lv c : Nat) (h : AH) (F : Nat), r + m = 12 → r < F → CS h K U n ord i lv c → h.2.1 50 3 = nI m → (∀ t, t < m → HdF (h.2.1 51) (h.2.1 52) t (f t) c) → RTx h n (textS K U ord r m f i lv) (f_X3_read_l43 S_1 F 45 (nI m) h) := by
  intro r
  induction r with
  | zero =>
    intro m f i lv c h F hr hF cs e3 hh
    obtain ⟨F, rfl⟩ : ∃ x, F = x + 1 := ⟨F - 1, by omega⟩
    rw [f_X3_read_l43]
    unfold f_X3_read_l43b
    rw [if_pos (show (12 : Int32) ≤ nI m by rw [show (12 : Int32) = nI 12 from rfl, nn_le (by decide) (by omega)]; omega)]
    exact ⟨h, Or.inr rfl, Eqv.refl h, cs.2.2.2.1, cs.2.2.2.2.1⟩
  | succ r ih =>
    intro m f i lv c h F hr hF cs e3 hh
    obtain ⟨F, rfl⟩ : ∃ x, F = x + 1 := ⟨F - 1, by omega⟩
    obtain ⟨n1, n2, n3, n4, n5⟩ := cs.n4
    have hm : m < 12 := by omega
    have hlv := cs.2.2.2.2.2.2.1
    rw [f_X3_read_l43]
    unfold f_X3_read_l43b
    rw [if_neg (show ¬ (12 : Int32) ≤ nI m by rw [show (12 : Int32) = nI 12 from rfl, nn_le (by decide) (by omega)]; omega), bs_ (ck_45' h), bs_ (q_kind cs.1 n2 cs.2.2.2.1)]
    dsimp only
    rw [bs_ (ck_45' h), bs_ (show f_X3_setHead S_1 45 (0 : Int32) (nI (K i)) h = _ from q_setHead (x := 0) e3 hm (by decide) _)]
    dsimp only
    obtain ⟨h1, hh1⟩ : ∃ h1, h1 = stI h 52 (6 * m + 0) (nI (K i)) := ⟨_, rfl⟩
    have e31 : h1.2.1 50 3 = nI m := by rw [hh1, ri_p (by decide)]; exact e3
    rw [← hh1, bs_ (ck_45' h1), bs_ (show f_X3_setHead S_1 45 (1 : Int32) (1 : Int32) h1 = _ from q_setHead (x := 1) e31 hm (by decide) _)]
    dsimp only
    obtain ⟨h2, hh2⟩ : ∃ h2, h2 = stI h1 52 (6 * m + 1) (1 : Int32) := ⟨_, rfl⟩
    have e32 : h2.2.1 50 3 = nI m := by rw [hh2, ri_p (by decide)]; exact e31
    have v52 : h2.2.1 50 2 = nI c := by rw [hh2, ri_p (by decide), hh1, ri_p (by decide)]; exact cs.2.2.2.2.2.2.2.1
    rw [← hh2, bs_ (yr_45_1' h2), bs_ (gi50 h2 2), v52, bs_ (ck_45' h2), bs_ (show f_X3_setHead S_1 45 (2 : Int32) (nI c) h2 = _ from q_setHead (x := 2) e32 hm (by decide) _)]
    dsimp only
    obtain ⟨h3, hh3⟩ : ∃ h3, h3 = stI h2 52 (6 * m + 2) (nI c) := ⟨_, rfl⟩
    have e33 : h3.2.1 50 3 = nI m := by rw [hh3, ri_p (by decide)]; exact e32
    have E3 : Eqv PCh h h3 := by
      rw [hh3, hh2, hh1]
      exact (((Eqv.refl h).si (PCh_o (by omega))).si (PCh_o (by omega))).si (PCh_o (by omega))
    have cs3 : CS h3 K U n ord i lv c := by
      rw [hh3, hh2, hh1]
      exact ((cs.hd _ _).hd _ _).hd _ _
    have o51 : ∀ j, h3.2.1 51 j = h.2.1 51 j := fun j => by rw [hh3, ri_p (by decide), hh2, ri_p (by decide), hh1, ri_p (by decide)]
    have o52 : ∀ j, j < 6 * m → h3.2.1 52 j = h.2.1 52 j := fun j hj => by rw [hh3, ri_k (by omega), hh2, ri_k (by omega), hh1, ri_k (by omega)]
    have hd3 : Hd0 h3 m (K i) c := by
      refine ⟨?_, ?_, ?_⟩
      · rw [hh3, ri_k (by omega), hh2, ri_k (by omega), hh1]; exact stI_s _ _ _ _
      · rw [hh3, ri_k (by omega), hh2, stI_s]; rfl
      · rw [hh3, stI_s]
    have z2 : h3.2.1 45 2 = bI (!ord) := cs3.2.2.1
    rw [← hh3, bs_ (gi45 h3 2), z2, textS]
    have go := head_go (U := U) (ord := ord) cs.2.1 n2 hlv
    unfold clauS
    -- what is read ahead of the if: the same on either road
    have key : ∀ X : Option (Int32 × AH), RA h3 K U n ord m (K i) c (headA K U ord i lv) X → RTx h n (match (match headA K U ord i lv with
        | .inl j => .inl j
        | .inr (i1, lv1, s1, s2, tm) => match ifS K U ord i1 lv1 with
          | .inl j => .inl j
          | .inr (i2, lv2, t) => .inr (i2, lv2, K i, (s1, s2, t), tm) : Nat ⊕ (Nat × Nat × Co)) with
      | .inl j => .inl j
      | .inr (i', lv', x) => if K i' = 59 then textS K U ord r (m + 1) (fun c => if c = m then x else f c) (i' + 1) lv' else if K i' = 285 then .inr (m + 1, fun c => if c = m then x else f c) else .inl i') (X.bind fun z => match z with
      | (z_23, h_22) =>
      if z_23 = (0 : Int32) then
        some (.inl (0 : Int32), h_22)
      else
        f_X3_read_l43_j103 S_1 (f_X3_read_l43 S_1 F) 45 (nI m) h_22) := fun X hX => by
      revert go hX
      rcases headA K U ord i lv with j | ⟨i1, lv1, s1, s2, tm⟩
      · rintro ⟨-, g2⟩ ⟨h4, r4, e4, v4⟩
        rw [bs_ r4]
        dsimp only
        rw [if_pos rfl]
        exact ⟨h4, Or.inl rfl, E3.trans e4, v4, g2⟩
      · rintro ⟨g1, g2, g3, g4⟩ ⟨h4, c4, r4, e4, cs4, m4, p1, p2, hd4⟩
        rw [bs_ r4]
        dsimp only
        rw [if_neg (show ¬ (1 : Int32) = 0 by decide)]
        have q := q_if cs4 (f_X3_read_l43 S_1 F) (nI m)
        have gi := if_go (U := U) (ord := ord) cs.2.1 g2 g4
        revert q gi
        rcases ifS K U ord i1 lv1 with j | ⟨i2, lv2, t⟩
        · rintro ⟨h5, r5, e5, v5⟩ ⟨-, b2⟩
          exact ⟨h5, Or.inl r5, E3.trans (e4.trans (e5.mono PCr_h)), v5, b2⟩
        · rintro ⟨h5, c5, r5, e5, cs5, p5, tp5⟩ ⟨b1, b2, b3, b4⟩
          have m5 : h5.2.1 50 3 = nI m := (e5.i 50 3 rfl).trans m4
          have k5 := cs5.n4
          obtain ⟨d1, d2, d3, t1, d4, d5, d6, d7⟩ := hd4
          have l1 := d6.le
          have l2 := d7.le
          have l3 := tp5.le
          rw [r5]
          unfold f_X3_read_l43_j127
          rw [bs_ (yr_45_1' h5), bs_ (gi50 h5 2), cs5.2.2.2.2.2.2.2.1, bs_ (ck_45' h5), bs_ (show f_X3_setHead S_1 45 (5 : Int32) (nI c5) h5 = _ from q_setHead (x := 5) m5 hm (by decide) _)]
          dsimp only
          obtain ⟨h6, hh6⟩ : ∃ h6, h6 = stI h5 52 (6 * m + 5) (nI c5) := ⟨_, rfl⟩
          have m6 : h6.2.1 50 3 = nI m := by rw [hh6, ri_p (by decide)]; exact m5
          rw [← hh6, bs_ (yr_45_1' h6), bs_ (gi50 h6 3), m6, nI_1, bs_ (pi50 h6 3 _)]
          obtain ⟨h7, hh7⟩ : ∃ h7, h7 = stI h6 50 3 (nI (m + 1)) := ⟨_, rfl⟩
          have E7 : Eqv PCh h5 h7 := by
            rw [hh7, hh6]
            exact ((Eqv.refl h5).si (PCh_o (by omega))).si (PCh_o (by omega))
          have cs7 : CS h7 K U n ord i2 lv2 c5 := by
            refine cs5.h E7 ?_ k5.2.1 ?_ b4 ?_ k5.1
            · rw [hh7, ri_p (by decide), hh6, ri_p (by decide)]; exact cs5.2.2.2.1
            · rw [hh7, ri_p (by decide), hh6, ri_p (by decide)]; exact cs5.2.2.2.2.2.1
            · rw [hh7, ri_k (by decide), hh6, ri_p (by decide)]; exact cs5.2.2.2.2.2.2.2.1
          have o7 : h7.2.1 51 = h5.2.1 51 := funext fun j => by rw [hh7, ri_p (by decide), hh6, ri_p (by decide)]
          have u7 : ∀ j, j ≠ 6 * m + 5 → h7.2.1 52 j = h4.2.1 52 j := fun j hj => by rw [hh7, ri_p (by decide), hh6, ri_k hj]; exact e5.i 52 j (decide_eq_false (by omega))
          have w7 : h7.2.1 52 (6 * m + 5) = nI c5 := by rw [hh7, ri_p (by decide), hh6, stI_s]
          have c7 : h7.2.1 50 3 = nI (m + 1) := by rw [hh7, stI_s]
          have F7 : ∀ t', t' < m + 1 → HdF (h7.2.1 51) (h7.2.1 52) t' (if t' = m then (K i, (s1, s2, t), tm) else f t') c5 := fun t' ht => by
            by_cases et : t' = m
            · subst et
              rw [if_pos rfl, o7]
              exact ⟨(u7 _ (by omega)).trans d1, (u7 _ (by omega)).trans d2, c, t1, c4, c5, (u7 _ (by omega)).trans d3, (u7 _ (by omega)).trans d4, (u7 _ (by omega)).trans d5, w7, Nat.le_refl _, d6.cong fun y hy => p5 y (by omega), d7.cong fun y hy => p5 y hy, tp5⟩
            · rw [if_neg et, o7]
              exact (hh t' (by omega)).cong (by omega) (fun j hj => (p5 j (by omega)).trans ((p1 j hj).trans (o51 j))) fun j hj => (u7 j (by omega)).trans ((p2 j (by omega)).trans (o52 j (by omega)))
          have E : Eqv PCh h h7 := E3.trans (e4.trans ((e5.mono PCr_h).trans E7))
          rw [← hh7, bs_ (ck_45' h7), bs_ (q_kind cs7.1 b2 cs7.2.2.2.1)]
          dsimp only
          have ki := cs7.n4
          by_cases c59 : K i2 = 59
          · rw [if_pos c59, if_pos (show nI (K i2) = (59 : Int32) by rw [c59]; rfl), bs_ (ck_45' h7)]
            obtain ⟨r8, cs8, e8⟩ := cs7.nx (by omega)
            have y1 : ∀ j, (stI h7 45 3 (nI (i2 + 1))).2.1 51 j = h7.2.1 51 j := fun j => ri_p (by decide)
            have y2 : ∀ j, (stI h7 45 3 (nI (i2 + 1))).2.1 52 j = h7.2.1 52 j := fun j => ri_p (by decide)
            rw [bs_ r8]
            dsimp only
            rw [lt_e]
            generalize stI h7 45 3 (nI (i2 + 1)) = h8 at cs8 e8 y1 y2
            refine RTx.from (E.trans (e8.mono PCr_h)) (ih (m + 1) _ (i2 + 1) lv2 c5 h8 F (by omega) (by omega) cs8 ((e8.i 50 3 rfl).trans c7) fun t' ht => (F7 t' ht).cong (Nat.le_refl _) (fun j _ => y1 j) fun j _ => y2 j)
          · rw [if_neg c59, if_neg (show ¬ nI (K i2) = (59 : Int32) by rw [show (59 : Int32) = nI 59 from rfl, nn_eq (by omega) (by decide)]; exact c59), bs_ (ck_45' h7), bs_ (q_kind cs7.1 b2 cs7.2.2.2.1)]
            dsimp only
            by_cases c285 : K i2 = 285
            · rw [if_pos c285, if_pos (show nI (K i2) = (285 : Int32) by rw [c285]; rfl)]
              exact ⟨h7, c5, rfl, E, cs7.2.2.2.2.2.2.2.1, by omega, c7, by omega, by omega, F7⟩
            · rw [if_neg c285, if_neg (show ¬ nI (K i2) = (285 : Int32) by rw [show (285 : Int32) = nI 285 from rfl, nn_eq (by omega) (by decide)]; exact c285)]
              exact ⟨h7, Or.inl rfl, E, cs7.2.2.2.1, b2⟩
    cases ord with
    | true =>
      rw [if_pos (show bI (!true) = 0 from rfl), bs_ (ck_45' h3)]
      exact key _ (q_ordA cs3 hm e33 hd3)
    | false =>
      rw [if_neg (show ¬ bI (!false) = 0 by decide), bs_ (ck_45' h3)]
      exact key _ (q_lawA cs3 hm e33 hd3)
