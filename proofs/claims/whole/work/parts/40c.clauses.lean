/-! reading: the class's orders -/
/-- what stands behind the sums -/
theorem q_tim {h g : AH} {K U : Nat → Nat} {n i lv c c' m x : Nat} {s1 s2 : Option DD} (e : Eqv PCh h g) (cg : CS g K U n true i lv c') (hm : m < 12) (g3 : g.2.1 50 3 = nI m) (o1 : ∀ j, j < c → g.2.1 51 j = h.2.1 51 j) (o2 : ∀ j, j < 6 * m → g.2.1 52 j = h.2.1 52 j) (hd : HdA g m x s1 s2 1 c c') : RA h K U n true m x c (timS K U i lv s1 s2) (f_X3_times S_1 45 g) := by
  obtain ⟨n1, n2, n3, n4, n5⟩ := cg.n4
  unfold f_X3_times timS
  rw [bs_ (ck_45' g), bs_ (q_kind cg.1 n2 cg.2.2.2.1)]
  dsimp only
  by_cases c1 : K i = 260
  · rw [if_pos c1, if_pos (show nI (K i) = (260 : Int32) by rw [c1]; rfl), bs_ (ck_45' g)]
    obtain ⟨r1, cs1, e1⟩ := cg.nx (by omega)
    have hl := cg.2.1.lt n2 (by omega)
    have p1 : ∀ j, (stI g 45 3 (nI (i + 1))).2.1 51 j = g.2.1 51 j := fun j => ri_p (by decide)
    have p2 : ∀ j, (stI g 45 3 (nI (i + 1))).2.1 52 j = g.2.1 52 j := fun j => ri_p (by decide)
    rw [bs_ r1]
    dsimp only
    generalize stI g 45 3 (nI (i + 1)) = g1 at cs1 e1 p1 p2
    have m1 : g1.2.1 50 3 = nI m := (e1.i 50 3 rfl).trans g3
    obtain ⟨k1, k2, k3, k4, k5⟩ := cs1.n4
    rw [bs_ (ck_45' g1), bs_ (show f_X3_isNumber S_1 45 (1 : Int32) (20 : Int32) g1 = _ from q_isNum (x := 1) (y := 20) cs1.1 k2 cs1.2.2.2.1 (by decide) (by decide))]
    dsimp only
    by_cases c2 : K (i + 1) = 284 ∧ 1 ≤ U (i + 1) ∧ U (i + 1) ≤ 20
    · rw [if_pos c2, decide_eq_true c2, if_neg (show ¬ bI true = 0 by decide), bs_ (ck_45' g1), bs_ (q_num cs1.1 k2 cs1.2.2.2.1)]
      dsimp only
      rw [bs_ (ck_45' g1), bs_ (show f_X3_setHead S_1 45 (1 : Int32) (nI (U (i + 1))) g1 = _ from q_setHead (x := 1) m1 hm (by decide) _)]
      dsimp only
      obtain ⟨g2, hg2⟩ : ∃ g2, g2 = stI g1 52 (6 * m + 1) (nI (U (i + 1))) := ⟨_, rfl⟩
      have cs2 : CS g2 K U n true (i + 1) lv c' := by rw [hg2]; exact cs1.hd _ _
      have q1 : ∀ j, g2.2.1 51 j = g.2.1 51 j := fun j => by rw [hg2, ri_p (by decide)]; exact p1 j
      have q2 : ∀ j, j ≠ 6 * m + 1 → g2.2.1 52 j = g.2.1 52 j := fun j hj => by rw [hg2, ri_k hj]; exact p2 j
      have qv : g2.2.1 52 (6 * m + 1) = nI (U (i + 1)) := by rw [hg2, stI_s]
      have e2 : Eqv PCh h g2 := by rw [hg2]; exact (e.trans (e1.mono PCr_h)).si (PCh_o (by omega))
      have m2 : g2.2.1 50 3 = nI m := by rw [hg2, ri_p (by decide)]; exact m1
      rw [← hg2]
      obtain ⟨r3, cs3, e3⟩ := cs2.nx (by omega)
      have w1 : (stI g2 45 3 (nI (i + 1 + 1))).2.1 51 = g.2.1 51 := funext fun j => (ri_p (by decide)).trans (q1 j)
      have w2 : ∀ j, (stI g2 45 3 (nI (i + 1 + 1))).2.1 52 j = g2.2.1 52 j := fun j => ri_p (by decide)
      rw [bs_ (ck_45' g2), bs_ r3]
      dsimp only
      generalize stI g2 45 3 (nI (i + 1 + 1)) = g3 at cs3 e3 w1 w2
      obtain ⟨d1, d2, d3, t, d4, d5, d6, d7⟩ := hd
      have z : ∀ j, j ≠ 6 * m + 1 → g3.2.1 52 j = g.2.1 52 j := fun j hj => (w2 j).trans (q2 j hj)
      exact ⟨g3, c', rfl, e2.trans (e3.mono PCr_h), cs3, (e3.i 50 3 rfl).trans m2, fun j hj => by rw [w1]; exact o1 j hj, fun j hj => (z j (by omega)).trans (o2 j hj), (z _ (by omega)).trans d1, (w2 _).trans qv, (z _ (by omega)).trans d3, t, (z _ (by omega)).trans d4, (z _ (by omega)).trans d5, by rw [w1]; exact d6, by rw [w1]; exact d7⟩
    · rw [if_neg c2, decide_eq_false c2, if_pos (show bI false = 0 from rfl)]
      exact ⟨g1, rfl, e.trans (e1.mono PCr_h), cs1.2.2.2.1⟩
  · rw [if_neg c1, if_neg (show ¬ nI (K i) = (260 : Int32) by rw [show (260 : Int32) = nI 260 from rfl, nn_eq (by omega) (by decide)]; exact c1)]
    exact ⟨g, c', rfl, e, cg, g3, o1, o2, hd⟩
theorem q_j42 {h g : AH} {K U : Nat → Nat} {n i lv c c' m x : Nat} {s1 : Option DD} (e : Eqv PCh h g) (cg : CS g K U n true i lv c') (hm : m < 12) (hx : 266 ≤ x ∧ x ≤ 269) (g3 : g.2.1 50 3 = nI m) (o1 : ∀ j, j < c → g.2.1 51 j = h.2.1 51 j) (o2 : ∀ j, j < 6 * m → g.2.1 52 j = h.2.1 52 j) (hd : Hd0 g m x c) (op : OpX (g.2.1 51) s1 c c') : RA h K U n true m x c (sec2S K U x i lv s1) (f_X3_orderClause_j42 S_1 45 (nI x) g) := by
  obtain ⟨n1, n2, n3, n4, n5⟩ := cg.n4
  obtain ⟨d1, d2, d3⟩ := hd
  have nx : ∀ y : Nat, y < 300 → (nI x = nI y) = (x = y) := fun y hy => nn_eq (by omega) (by omega)
  unfold f_X3_orderClause_j42
  rw [bs_ (yr_45_1' g), bs_ (gi50 g 2), cg.2.2.2.2.2.2.2.1, bs_ (ck_45' g), bs_ (show f_X3_setHead S_1 45 (3 : Int32) (nI c') g = _ from q_setHead (x := 3) g3 hm (by decide) _)]
  dsimp only
  obtain ⟨g1, hg1⟩ : ∃ g1, g1 = stI g 52 (6 * m + 3) (nI c') := ⟨_, rfl⟩
  have cg1 : CS g1 K U n true i lv c' := by rw [hg1]; exact cg.hd _ _
  have g13 : g1.2.1 50 3 = nI m := by rw [hg1, ri_p (by decide)]; exact g3
  have a1 : ∀ j, g1.2.1 51 j = g.2.1 51 j := fun j => by rw [hg1, ri_p (by decide)]
  have a2 : ∀ j, j ≠ 6 * m + 3 → g1.2.1 52 j = g.2.1 52 j := fun j hj => by rw [hg1, ri_k hj]
  have a3 : g1.2.1 52 (6 * m + 3) = nI c' := by rw [hg1, stI_s]
  have E1 : Eqv PCh h g1 := by rw [hg1]; exact e.si (PCh_o (by omega))
  rw [← hg1]
  -- the last head put down, then times
  have fin : ∀ (u : AH) (i' lv' c2 : Nat) (s2 : Option DD), Eqv PCr g1 u → CS u K U n true i' lv' c2 → (∀ j, j < c' → u.2.1 51 j = g1.2.1 51 j) → OpX (u.2.1 51) s2 c' c2 → RA h K U n true m x c (timS K U i' lv' s1 s2) ((gR S_1 u 45 3 1).bind fun p_10 =>
      (gI S_1 u p_10 8 2).bind fun v_12 =>
      (ckO S_1 u 45 3).bind fun _ =>
      (f_X3_setHead S_1 45 (4 : Int32) v_12 u).bind fun z => match z with
      | (_, h_15) =>
      (ckO S_1 h_15 45 3).bind fun _ =>
      (f_X3_times S_1 45 h_15).bind fun z => match z with
      | (z_19, h_18) =>
      (isZ z_19).bind fun _ =>
      some (z_19, h_18)) := fun u i' lv' c2 s2 eu cu ou op2 => by
    have u3 : u.2.1 50 3 = nI m := (eu.i 50 3 rfl).trans g13
    have u52 : ∀ j, u.2.1 52 j = g1.2.1 52 j := fun j => eu.i 52 j (decide_eq_false (by omega))
    have l1 := op.le
    rw [bs_ (yr_45_1' u), bs_ (gi50 u 2), cu.2.2.2.2.2.2.2.1, bs_ (ck_45' u), bs_ (show f_X3_setHead S_1 45 (4 : Int32) (nI c2) u = _ from q_setHead (x := 4) u3 hm (by decide) _)]
    dsimp only
    obtain ⟨g2, hg2⟩ : ∃ g2, g2 = stI u 52 (6 * m + 4) (nI c2) := ⟨_, rfl⟩
    have cg2 : CS g2 K U n true i' lv' c2 := by rw [hg2]; exact cu.hd _ _
    have b1 : g2.2.1 51 = u.2.1 51 := funext fun j => by rw [hg2, ri_p (by decide)]
    have b2 : ∀ j, j ≠ 6 * m + 4 → g2.2.1 52 j = g1.2.1 52 j := fun j hj => by rw [hg2, ri_k hj]; exact u52 j
    rw [← hg2, bs_ (ck_45' g2)]
    refine RA.z (q_tim (c' := c2) ?_ cg2 hm ?_ (fun j hj => ?_) (fun j hj => ?_) ⟨?_, ?_, ?_, c', ?_, ?_, ?_, ?_⟩)
    · rw [hg2]
      exact (E1.trans (eu.mono PCr_h)).si (PCh_o (by omega))
    · rw [hg2, ri_p (by decide)]; exact u3
    · rw [b1, ou j (by omega), a1]; exact o1 j hj
    · rw [b2 j (by omega), a2 j (by omega)]; exact o2 j hj
    · rw [b2 _ (by omega), a2 _ (by omega)]; exact d1
    · rw [b2 _ (by omega), a2 _ (by omega)]; exact d2
    · rw [b2 _ (by omega), a2 _ (by omega)]; exact d3
    · rw [b2 _ (by omega)]; exact a3
    · rw [hg2, stI_s]
    · rw [b1]
      exact op.cong fun t ht => (ou t ht).trans (a1 t)
    · rw [b1]; exact op2
  have j68 : (x = 266 ∨ x = 268) → RA h K U n true m x c (sec2S K U x i lv s1) (f_X3_orderClause_j68 S_1 45 (nI x) g1) := fun hx2 => by
    unfold sec2S
    rw [if_pos hx2]
    have j88 : ∀ w : Nat, w = (if x = 266 then 261 else 262) → w < 300 → RA h K U n true m x c (if K i = (if x = 266 then 261 else 262) then (match sumS K U true 8 (i + 1) lv with
        | .inl j => .inl j
        | .inr (i', lv', d) => timS K U i' lv' s1 (some d)) else .inl i) (f_X3_orderClause_j88 S_1 45 (nI (K i)) (nI w) g1) := fun w hw hw3 => by
      unfold f_X3_orderClause_j88
      rw [← hw]
      by_cases c2 : K i = w
      · rw [if_pos c2, if_pos (show nI (K i) = nI w by rw [c2]), bs_ (ck_45' g1)]
        obtain ⟨r2, cs2, e2⟩ := cg1.nx (by split at hw <;> omega)
        have p1 : ∀ j, (stI g1 45 3 (nI (i + 1))).2.1 51 j = g1.2.1 51 j := fun j => ri_p (by decide)
        rw [bs_ r2]
        dsimp only
        generalize stI g1 45 3 (nI (i + 1)) = g2 at cs2 e2 p1
        rw [bs_ (ck_45' g2)]
        have q := q_sumC cs2
        revert q
        rcases sumS K U true 8 (i + 1) lv with j | ⟨i', lv', d⟩
        · rintro ⟨h2, r3, e3, v3⟩
          rw [bs_ r3]
          dsimp only
          rw [if_pos rfl]
          exact ⟨h2, rfl, E1.trans ((e2.trans e3).mono PCr_h), v3⟩
        · rintro ⟨h2, c3, r3, e3, cs3, o3, op3⟩
          rw [bs_ r3]
          dsimp only
          rw [if_neg (show ¬ (1 : Int32) = 0 by decide)]
          exact fin h2 i' lv' c3 (some d) (e2.trans e3) cs3 (fun j hj => (o3 j hj).trans (p1 j)) op3
      · rw [if_neg c2, if_neg (show ¬ nI (K i) = nI w by rw [nn_eq (by omega) (by omega)]; exact c2)]
        exact ⟨g1, rfl, E1, cg1.2.2.2.1⟩
    unfold f_X3_orderClause_j68
    rw [bs_ (ck_45' g1), bs_ (q_kind cg1.1 n2 cg1.2.2.2.1)]
    dsimp only
    by_cases c2 : x = 266
    · rw [if_pos (show nI x = (266 : Int32) by rw [c2]; rfl)]
      exact j88 261 (by rw [if_pos c2]) (by decide)
    · rw [if_neg (show ¬ nI x = (266 : Int32) by rw [show (266 : Int32) = nI 266 from rfl, nx 266 (by decide)]; exact c2)]
      exact j88 262 (by rw [if_neg c2]) (by decide)
  by_cases c2 : x = 266
  · rw [if_pos (show nI x = (266 : Int32) by rw [c2]; rfl)]
    exact j68 (Or.inl c2)
  · rw [if_neg (show ¬ nI x = (266 : Int32) by rw [show (266 : Int32) = nI 266 from rfl, nx 266 (by decide)]; exact c2)]
    by_cases c3 : x = 268
    · rw [if_pos (show nI x = (268 : Int32) by rw [c3]; rfl)]
      exact j68 (Or.inr c3)
    · rw [if_neg (show ¬ nI x = (268 : Int32) by rw [show (268 : Int32) = nI 268 from rfl, nx 268 (by decide)]; exact c3)]
      unfold sec2S
      rw [if_neg (show ¬ (x = 266 ∨ x = 268) by omega)]
      exact fin g1 i lv c' none (Eqv.refl g1) cg1 (fun j _ => rfl) rfl
theorem q_ordA {h : AH} {K U : Nat → Nat} {n i lv c m : Nat} (cs : CS h K U n true i lv c) (hm : m < 12) (e3 : h.2.1 50 3 = nI m) (hd : Hd0 h m (K i) c) : RA h K U n true m (K i) c (ordA K U i lv) (f_X3_orderClause S_1 45 h) := by
  obtain ⟨n1, n2, n3, n4, n5⟩ := cs.n4
  obtain ⟨d1, d2, d3⟩ := hd
  have nk : ∀ y : Nat, y < 300 → (nI (K i) = nI y) = (K i = y) := fun y hy => nn_eq (by omega) (by omega)
  unfold f_X3_orderClause ordA
  rw [bs_ (ck_45' h), bs_ (q_kind cs.1 n2 cs.2.2.2.1)]
  dsimp only
  by_cases c1 : 266 ≤ K i ∧ K i ≤ 269
  · rw [if_pos c1, if_neg (show ¬ nI (K i) < (266 : Int32) by rw [show (266 : Int32) = nI 266 from rfl, nn_lt (by omega) (by decide)]; omega), if_pos (show nI (K i) ≤ (269 : Int32) by rw [show (269 : Int32) = nI 269 from rfl, nn_le (by omega) (by decide)]; omega), bs_ (ck_45' h)]
    obtain ⟨r1, cs1, e1⟩ := cs.nx (by omega)
    have o1 : ∀ j, (stI h 45 3 (nI (i + 1))).2.1 51 j = h.2.1 51 j := fun j => ri_p (by decide)
    have o2 : ∀ j, (stI h 45 3 (nI (i + 1))).2.1 52 j = h.2.1 52 j := fun j => ri_p (by decide)
    rw [bs_ r1]
    dsimp only
    generalize stI h 45 3 (nI (i + 1)) = h1 at cs1 e1 o1 o2
    by_cases c2 : K i = 269
    · rw [if_pos c2, if_pos (show nI (K i) = (269 : Int32) by rw [c2]; rfl)]
      exact q_j42 (e1.mono PCr_h) cs1 hm c1 ((e1.i 50 3 rfl).trans e3) (fun j _ => o1 j) (fun j _ => o2 j) ⟨(o2 _).trans d1, (o2 _).trans d2, (o2 _).trans d3⟩ rfl
    · rw [if_neg c2, if_neg (show ¬ nI (K i) = (269 : Int32) by rw [show (269 : Int32) = nI 269 from rfl, nk 269 (by decide)]; exact c2), bs_ (ck_45' h1)]
      have q := q_sumC cs1
      revert q
      rcases sumS K U true 8 (i + 1) lv with j | ⟨i', lv', d⟩
      · rintro ⟨h2, r2, e2, v2⟩
        rw [bs_ r2]
        dsimp only
        rw [if_pos rfl]
        exact ⟨h2, rfl, (e1.trans e2).mono PCr_h, v2⟩
      · rintro ⟨h2, c2', r2, e2, cs2, p2, op2⟩
        rw [bs_ r2]
        dsimp only
        rw [if_neg (show ¬ (1 : Int32) = 0 by decide)]
        have z : ∀ j, h2.2.1 52 j = h.2.1 52 j := fun j => (e2.i 52 j (decide_eq_false (by omega))).trans (o2 j)
        exact q_j42 ((e1.trans e2).mono PCr_h) cs2 hm c1 (((e1.trans e2).i 50 3 rfl).trans e3) (fun j hj => (p2 j hj).trans (o1 j)) (fun j _ => z j) ⟨(z _).trans d1, (z _).trans d2, (z _).trans d3⟩ op2
  · rw [if_neg c1]
    by_cases c2 : K i < 266
    · rw [if_pos (show nI (K i) < (266 : Int32) by rw [show (266 : Int32) = nI 266 from rfl, nn_lt (by omega) (by decide)]; exact c2)]
      exact ⟨h, rfl, Eqv.refl h, cs.2.2.2.1⟩
    · rw [if_neg (show ¬ nI (K i) < (266 : Int32) by rw [show (266 : Int32) = nI 266 from rfl, nn_lt (by omega) (by decide)]; exact c2), if_neg (show ¬ nI (K i) ≤ (269 : Int32) by rw [show (269 : Int32) = nI 269 from rfl, nn_le (by omega) (by decide)]; omega)]
      exact ⟨h, rfl, Eqv.refl h, cs.2.2.2.1⟩
