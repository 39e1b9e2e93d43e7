/-! reading: the other side's tests, whole -/
/-- laid on the pile -/
theorem m_pushAt {h : AH} {b : Nat → Nat} {t n i lv c o op x : Nat} {ord : Bool} {Q : List (Nat × Nat)} (k : MS h b t n ord i lv c o Q) (hop : op < 31) (hx : x < 400) (hw : c + wtP Q + 1 ≤ i) (hl : Q.length + 1 ≤ i) : ∃ h', f_X11_push S_1 80 (nI op) (nI x) h = some ((), h') ∧ Eqv PE h h' ∧ MS h' b t n ord i lv c o ((op, x) :: Q) ∧ ∀ j, h'.2.1 91 j = h.2.1 91 j ∧ h'.2.1 92 j = h.2.1 92 j := by
  have n4 := k.n4
  obtain ⟨⟨q1, q2, q3⟩, a4, a5, ⟨a6, a7⟩, a8, ⟨a9, b1⟩, b2, b3, b4, b5⟩ := k
  obtain ⟨h1, hh1⟩ : ∃ h1, h1 = stI (stI (stI h 93 Q.length (nI op)) 94 Q.length (nI x)) 80 29 (nI (Q.length + 1)) := ⟨_, rfl⟩
  have e1 : Eqv PE h h1 := by
    rw [hh1]
    exact (((Eqv.refl h).si (PE_o (by omega))).si (PE_o (by omega))).si (PE_o (by omega))
  have o1 : ∀ p j, p ≠ 93 → p ≠ 94 → ¬ (p = 80 ∧ j = 29) → h1.2.1 p j = h.2.1 p j := fun p j x1 x2 x3 => by
    rw [hh1]
    by_cases z : p = 80
    · subst z
      rw [ri_k (by omega), ri_p (by omega), ri_p (by omega)]
    · rw [ri_p z, ri_p x2, ri_p x1]
  have cur1 : Cur h1 b t i := by
    obtain ⟨⟨t1, t2, t3⟩, v14, v15, v16, v17⟩ := q1
    have q : ∀ j, 13 ≤ j → j ≤ 17 → h1.2.1 80 j = h.2.1 80 j := fun j x1 x2 => o1 80 j (by decide) (by decide) (by omega)
    exact ⟨⟨(q 13 (by omega) (by omega)).trans t1, t2, fun j hj => ⟨(o1 89 j (by decide) (by decide) (by omega)).trans (t3 j hj).1, (t3 j hj).2⟩⟩, (q 14 (by omega) (by omega)).trans v14, (q 15 (by omega) (by omega)).trans v15, (q 16 (by omega) (by omega)).trans v16, by rw [hh1]; exact v17⟩
  refine ⟨h1, by rw [hh1]; exact m_push a9 (by omega) _ _, e1, ⟨⟨cur1, q2, q3⟩, (o1 80 19 (by decide) (by decide) (by omega)).trans a4, (o1 80 20 (by decide) (by decide) (by omega)).trans a5, ⟨(o1 80 26 (by decide) (by decide) (by omega)).trans a6, a7⟩, (o1 80 23 (by decide) (by decide) (by omega)).trans a8, ⟨by rw [hh1, stI_s]; rfl, b1.push (by omega) hx hh1⟩, (o1 80 30 (by decide) (by decide) (by omega)).trans b2, ?_, ?_, b5.1, b5.2.e e1 fun p j hp => decide_eq_false (by omega)⟩, fun j => ⟨o1 91 j (by decide) (by decide) (by omega), o1 92 j (by decide) (by decide) (by omega)⟩⟩
  · rw [wtP]
    split <;> omega
  · rw [List.length_cons]; omega
/-- and, or: laid on the pile, put down, and on -/
theorem m_opNext {h : AH} {b : Nat → Nat} {t n i lv c o op : Nat} {ord : Bool} {Q : List (Nat × Nat)} (k : MS h b t n ord i lv c o Q) (hi : tkK b t i ≠ 285) (hop : op = 29 ∨ op = 30) : ∃ h1 h2 h', f_X11_push S_1 80 (nI op) (nI c) h = some ((), h1) ∧ f_X11_emit S_1 80 (nI op) (0 : Int32) h1 = some ((), h2) ∧ f_X11_next S_1 80 h2 = some ((), h') ∧ Eqv PE h h' ∧ MS h' b t n ord (i + 1) lv (c + 1) o ((op, c) :: Q) ∧ Cod h h' c ∧ h'.2.1 91 c = nI op := by
  have hl := k.1.2.1.lt k.1.2.2 hi
  have n4 := k.1.2.1.1
  obtain ⟨⟨q1, q2, q3⟩, a4, a5, ⟨a6, a7⟩, a8, ⟨a9, b1⟩, b2, b3, b4, b5⟩ := k
  obtain ⟨h1, hh1⟩ : ∃ h1, h1 = stI (stI (stI h 93 Q.length (nI op)) 94 Q.length (nI c)) 80 29 (nI (Q.length + 1)) := ⟨_, rfl⟩
  have c1 : h1.2.1 80 23 = nI c := by rw [hh1, ri_k (by decide), ri_p (by decide), ri_p (by decide)]; exact a8
  obtain ⟨h2, hh2⟩ : ∃ h2, h2 = stI (stI (stI h1 91 c (nI op)) 92 c 0) 80 23 (nI (c + 1)) := ⟨_, rfl⟩
  have e1 : Eqv PE h h2 := by
    rw [hh2, hh1]
    exact ((((((Eqv.refl h).si (PE_o (by omega))).si (PE_o (by omega))).si (PE_o (by omega))).si (PE_o (by omega))).si (PE_o (by omega))).si (PE_o (by omega))
  have o1 : ∀ p j, p ≠ 93 → p ≠ 94 → ¬ (p = 80 ∧ (j = 29 ∨ j = 23)) → ¬ (p = 91 ∧ j = c) → ¬ (p = 92 ∧ j = c) → h2.2.1 p j = h.2.1 p j := fun p j x1 x2 x3 x4 x5 => by
    have s1 : h1.2.1 p j = h.2.1 p j := by
      rw [hh1]
      by_cases z : p = 80
      · subst z
        rw [ri_k (by omega), ri_p (by omega), ri_p (by omega)]
      · rw [ri_p z, ri_p x2, ri_p x1]
    rw [hh2, ← s1]
    by_cases z : p = 80
    · subst z
      rw [ri_k (by omega), ri_p (by omega), ri_p (by omega)]
    · rw [ri_p z]
      by_cases z2 : p = 92
      · subst z2
        rw [ri_k (by omega), ri_p (by omega)]
      · rw [ri_p z2]
        by_cases z3 : p = 91
        · subst z3
          rw [ri_k (by omega)]
        · rw [ri_p z3]
  have cur1 : Cur h2 b t i := by
    obtain ⟨⟨t1, t2, t3⟩, v14, v15, v16, v17⟩ := q1
    have q : ∀ j, 13 ≤ j → j ≤ 17 → h2.2.1 80 j = h.2.1 80 j := fun j x1 x2 => o1 80 j (by decide) (by decide) (by omega) (by omega) (by omega)
    exact ⟨⟨(q 13 (by omega) (by omega)).trans t1, t2, fun j hj => ⟨(o1 89 j (by decide) (by decide) (by omega) (by omega) (by omega)).trans (t3 j hj).1, (t3 j hj).2⟩⟩, (q 14 (by omega) (by omega)).trans v14, (q 15 (by omega) (by omega)).trans v15, (q 16 (by omega) (by omega)).trans v16, by rw [hh2, hh1]; exact v17⟩
  obtain ⟨h', r, e, cur'⟩ := cur1.next hi
  have oo : ∀ p j, p ≠ 93 → p ≠ 94 → ¬ (p = 80 ∧ (j = 29 ∨ j = 23 ∨ 14 ≤ j ∧ j ≤ 17)) → ¬ (p = 91 ∧ j = c) → ¬ (p = 92 ∧ j = c) → h'.2.1 p j = h.2.1 p j := fun p j x1 x2 x3 x4 x5 => (e.i p j (decide_eq_false (by omega))).trans (o1 p j x1 x2 (by omega) x4 x5)
  have pl : Pl h2 ((op, c) :: Q) := (b1.push (x := op) (y := c) (h' := h1) (by omega) (by omega) hh1).cong fun p j hp _ => by rw [hh2, ri_p (by omega), ri_p (by omega), ri_p (by omega)]
  refine ⟨h1, h2, h', by rw [hh1]; exact m_push a9 (by omega) _ _, by rw [hh2]; exact m_emit c1 (by omega) _ _, r, e1.trans (e.mono PN_E), ⟨⟨cur', q2, hl⟩, (oo 80 19 (by decide) (by decide) (by omega) (by omega) (by omega)).trans a4, (oo 80 20 (by decide) (by decide) (by omega) (by omega) (by omega)).trans a5, ⟨(oo 80 26 (by decide) (by decide) (by omega) (by omega) (by omega)).trans a6, a7⟩, ?_, ⟨?_, pl.cong fun p j hp _ => e.i p j (decide_eq_false (by omega))⟩, (oo 80 30 (by decide) (by decide) (by omega) (by omega) (by omega)).trans b2, ?_, ?_, b5.1, b5.2.e (e1.trans (e.mono PN_E)) fun p j hp => decide_eq_false (by omega)⟩, fun j hj => ⟨oo 91 j (by decide) (by decide) (by omega) (by omega) (by omega), oo 92 j (by decide) (by decide) (by omega) (by omega) (by omega)⟩, ?_⟩
  · rw [e.i 80 23 rfl, hh2, stI_s]
  · rw [e.i 80 29 rfl, hh2, ri_k (by decide), ri_p (by decide), ri_p (by decide), hh1, stI_s]; rfl
  · rw [wtP, if_neg (show ¬ (op, c).1 < 29 by show ¬ op < 29; omega)]
    omega
  · rw [List.length_cons]; omega
  · rw [e.i 91 c rfl, hh2, ri_p (by decide), ri_p (by decide), stI_s]
theorem m_btA {h : AH} {b : Nat → Nat} {t n i lv c o c0 L : Nat} {ord : Bool} {W P : List (Nat × Nat)} {p q : Option (Nat × DD)} {d : DD} (k : MS h b t n ord i lv c o (W ++ (eJ 29 q ++ (eJ 30 p ++ P)))) (te : TeM h ord W p q c0 c d L) (hP : hdL 1 P) (hk : tkK b t i = 257) : ∃ h' c', f_X11_behindTest S_1 80 h = some (0, h') ∧ Eqv PE h h' ∧ MS h' b t n ord (i + 1) lv (c' + 1) o (eJ 29 (some (c', joinA (q.map Prod.snd) d)) ++ (eJ 30 p ++ P)) ∧ Cod h h' c0 ∧ ∃ m1 L1 L2, L = L1 + L2 ∧ P1J h' ord 30 p c0 m1 L1 ∧ P1J h' ord 29 (some (c', joinA (q.map Prod.snd) d)) m1 (c' + 1) L2 := by
  obtain ⟨h1, c1, r1, e1, ms1, cd1, m1, L1, L2, N, eL', k1, k2⟩ := m_setA k te hP
  have k1l := k1.le
  have k2l := k2.lt
  obtain ⟨h2, h3, h4, r2, r3, r4, e4, ms4, cd4, v4⟩ := m_opNext ms1 (by omega) (Or.inl rfl : (29 : Nat) = 29 ∨ (29 : Nat) = 30)
  refine ⟨h4, c1, ?_, (e1.mono PSe_E).trans e4, ms4, fun j hj => ⟨(cd4 j (by omega)).1.trans (cd1 j hj).1, (cd4 j (by omega)).2.trans (cd1 j hj).2⟩, m1, L1, L2, eL', k1.cong fun j hj => cd4 j (by omega), rfl, v4, N, k2.cong fun j hj => cd4 j hj⟩
  unfold f_X11_behindTest
  rw [bs_ (ck_80 h), bs_ (show f_X11_isWord S_1 80 (1476 : Int64) h = _ from m_isWord (k := 1) k.1.1 (by decide)), decide_eq_true (show tkK b t i = 256 + 1 from hk)]
  dsimp only
  rw [if_neg (show ¬ bI true = 0 by decide)]
  unfold f_X11_behindTest_j22
  rw [if_neg (show ¬ bI true = 0 by decide)]
  unfold f_X11_behindTest_j32
  rw [bs_ (ck_80 h), bs_ (show f_X11_settle S_1 80 (2 : Int32) h = _ from r1)]
  dsimp only
  rw [if_neg (show ¬ bI true = 0 by decide)]
  unfold f_X11_behindTest_j47
  rw [bs_ (gi80 h1 23), ms1.2.2.2.2.1, bs_ (ck_80 h1), bs_ (show f_X11_push S_1 80 (29 : Int32) (nI c1) h1 = _ from r2)]
  dsimp only
  rw [if_neg (show ¬ bI true = 0 by decide), bs_ (ck_80 h2), bs_ (show f_X11_emit S_1 80 (29 : Int32) (0 : Int32) h2 = _ from r3)]
  dsimp only
  rw [bs_ (ck_80 h3), bs_ r4]
theorem m_btO {h : AH} {b : Nat → Nat} {t n i lv c o c0 L : Nat} {ord : Bool} {W P : List (Nat × Nat)} {p q : Option (Nat × DD)} {d : DD} (k : MS h b t n ord i lv c o (W ++ (eJ 29 q ++ (eJ 30 p ++ P)))) (te : TeM h ord W p q c0 c d L) (hP : hdL 1 P) (hk : tkK b t i = 256) : ∃ h' c', f_X11_behindTest S_1 80 h = some (0, h') ∧ Eqv PE h h' ∧ MS h' b t n ord (i + 1) lv (c' + 1) o (eJ 29 none ++ (eJ 30 (some (c', joinO (p.map Prod.snd) (joinA (q.map Prod.snd) d))) ++ P)) ∧ Cod h h' c0 ∧ P1J h' ord 30 (some (c', joinO (p.map Prod.snd) (joinA (q.map Prod.snd) d))) c0 (c' + 1) L := by
  obtain ⟨h1, c1, r1, e1, ms1, cd1, N, k2⟩ := m_set1 k te hP
  have k2l := k2.lt
  obtain ⟨h2, h3, h4, r2, r3, r4, e4, ms4, cd4, v4⟩ := m_opNext ms1 (by omega) (Or.inr rfl : (30 : Nat) = 29 ∨ (30 : Nat) = 30)
  refine ⟨h4, c1, ?_, (e1.mono PSe_E).trans e4, ms4, fun j hj => ⟨(cd4 j (by omega)).1.trans (cd1 j hj).1, (cd4 j (by omega)).2.trans (cd1 j hj).2⟩, rfl, v4, N, k2.cong fun j hj => cd4 j hj⟩
  unfold f_X11_behindTest
  rw [bs_ (ck_80 h), bs_ (show f_X11_isWord S_1 80 (1476 : Int64) h = _ from m_isWord (k := 1) k.1.1 (by decide)), decide_eq_false (show ¬ tkK b t i = 256 + 1 by omega)]
  dsimp only
  rw [if_pos (show bI false = 0 from rfl), bs_ (ck_80 h), bs_ (show f_X11_isWord S_1 80 (498 : Int64) h = _ from m_isWord (k := 0) k.1.1 (by decide)), decide_eq_true (show tkK b t i = 256 + 0 from hk)]
  dsimp only
  rw [if_neg (show ¬ bI true = 0 by decide)]
  unfold f_X11_behindTest_j22
  rw [if_pos (show bI false = 0 from rfl)]
  unfold f_X11_behindTest_j32
  rw [bs_ (ck_80 h), bs_ (show f_X11_settle S_1 80 (1 : Int32) h = _ from r1)]
  dsimp only
  rw [if_pos (show bI false = 0 from rfl)]
  unfold f_X11_behindTest_j47
  rw [bs_ (gi80 h1 23), ms1.2.2.2.2.1, bs_ (ck_80 h1), bs_ (show f_X11_push S_1 80 (30 : Int32) (nI c1) h1 = _ from r2)]
  dsimp only
  rw [if_pos (show bI false = 0 from rfl), bs_ (ck_80 h2), bs_ (show f_X11_emit S_1 80 (30 : Int32) (0 : Int32) h2 = _ from r3)]
  dsimp only
  rw [bs_ (ck_80 h3), bs_ r4]
theorem TeM.hinV9 {h : AH} {ord : Bool} {W P : List (Nat × Nat)} {p q : Option (Nat × DD)} {c0 c L : Nat} {d : DD} (k : TeM h ord W p q c0 c d L) : inV (W ++ (eJ 29 q ++ (eJ 30 p ++ P))) = inV P := by
  obtain ⟨m1, m2, L1, L2, L3, k1, k2, k3, k4⟩ := k
  rw [inV_all W _ k4.op, inV_eJ (by decide), inV_eJ (by decide)]
/-- neither: what stands outside -/
theorem m_btN {h : AH} {b : Nat → Nat} {t n i lv c o : Nat} {ord : Bool} {P : List (Nat × Nat)} (k : MS h b t n ord i lv c o P) (h1 : tkK b t i ≠ 257) (h2 : tkK b t i ≠ 256) : f_X11_behindTest S_1 80 h = if inV P = (-1 : Int32) then some ((4 : Int32), h) else (f_X11_must S_1 80 (bI (decide (tkK b t i = 41))) h).bind fun z => match z with
    | (_, h_17) =>
    (gI S_1 h_17 80 11 19).bind fun v_19 =>
    if v_19 = (0 : Int32) then
      (ckO S_1 h_17 80 11).bind fun _ =>
      (f_X11_settle S_1 80 (1 : Int32) h_17).bind fun z => match z with
      | (_, h_23) =>
      (gI S_1 h_23 80 11 29).bind fun v_25 =>
      (pI S_1 h_23 80 11 29 (v_25 - (1 : Int32))).bind fun h_27 =>
      (gI S_1 h_27 80 11 30).bind fun v_29 =>
      (pI S_1 h_27 80 11 30 (v_29 - (1 : Int32))).bind fun h_31 =>
      some ((2 : Int32), h_31)
    else
      some ((2 : Int32), h_17) := by
  have n4 := k.n4
  have b4 := k.2.2.2.2.2.2.2.2.1
  unfold f_X11_behindTest
  rw [bs_ (ck_80 h), bs_ (show f_X11_isWord S_1 80 (1476 : Int64) h = _ from m_isWord (k := 1) k.1.1 (by decide)), decide_eq_false (show ¬ tkK b t i = 256 + 1 by omega)]
  dsimp only
  rw [if_pos (show bI false = 0 from rfl), bs_ (ck_80 h), bs_ (show f_X11_isWord S_1 80 (498 : Int64) h = _ from m_isWord (k := 0) k.1.1 (by decide)), decide_eq_false (show ¬ tkK b t i = 256 + 0 by omega)]
  dsimp only
  rw [if_pos (show bI false = 0 from rfl), bs_ (ck_80 h), bs_ (m_inner k.2.2.2.2.2.1.1 k.2.2.2.2.2.1.2 (by omega))]
  dsimp only
  by_cases c : inV P = (-1 : Int32)
  · rw [if_pos c, if_pos c]
  · rw [if_neg c, if_neg c, bs_ (ck_80 h), bs_ (show f_X11_isSign S_1 80 (41 : Int32) h = _ from m_isSign (x := 41) k.1.1 (by decide) (by decide)), bs_ (ck_80 h)]
theorem m_btC {h : AH} {b : Nat → Nat} {t n i lv c o c0 L : Nat} {ord : Bool} {W P : List (Nat × Nat)} {p q : Option (Nat × DD)} {d : DD} (k : MS h b t n ord i lv c (o + 1) (W ++ (eJ 29 q ++ (eJ 30 p ++ ((31, 0) :: P))))) (te : TeM h ord W p q c0 c d L) (h1 : tkK b t i ≠ 257) (h2 : tkK b t i ≠ 256) : (tkK b t i = 41 ∧ ∃ h' c' N, f_X11_behindTest S_1 80 h = some (2, h') ∧ Eqv PE h h' ∧ MS h' b t n ord (i + 1) lv c' o P ∧ Cod h h' c0 ∧ TstM ord (h'.2.1 91) (h'.2.1 92) N c0 c' (joinO (p.map Prod.snd) (joinA (q.map Prod.snd) d)) L) ∨ (tkK b t i ≠ 41 ∧ ∃ h', f_X11_behindTest S_1 80 h = some (2, h') ∧ Eqv PE h h' ∧ Bad h' b t i) := by
  have iv : inV (W ++ (eJ 29 q ++ (eJ 30 p ++ ((31, 0) :: P)))) = 31 := te.hinV9
  rw [m_btN k h1 h2, iv, if_neg (by decide)]
  by_cases c41 : tkK b t i = 41
  · obtain ⟨g1, r1, e1, ms1⟩ := m_must1 k (by omega)
    obtain ⟨g2, c2, r2, e2, ms2, cd2, N, s2⟩ := m_set1 ms1 (te.n e1) (show bnO 31 < 1 by decide)
    obtain ⟨g3, hh3, r3, e3, ms3, cd3⟩ := m_pop ms2 (by decide)
    refine Or.inl ⟨c41, g3, c2, N, ?_, (e1.mono PN_E).trans ((e2.mono PSe_E).trans e3), ms3, fun j hj => ?_, s2.cong fun j _ => cd3 j⟩
    · rw [decide_eq_true c41, bs_ (show f_X11_must S_1 80 (bI true) h = _ from r1)]
      dsimp only
      rw [bs_ (gi80 g1 19), ms1.2.1, if_pos rfl, bs_ (ck_80 g1), bs_ (show f_X11_settle S_1 80 (1 : Int32) g1 = _ from r2)]
      dsimp only
      exact r3 2
    · have a := Cod.n (c := c0) e1 j hj
      have b := cd2 j hj
      exact ⟨(cd3 j).1.trans (b.1.trans a.1), (cd3 j).2.trans (b.2.trans a.2)⟩
  · obtain ⟨g1, r1, e1, bd⟩ := m_must0 k
    refine Or.inr ⟨c41, g1, ?_, e1, bd⟩
    rw [decide_eq_false c41, bs_ (show f_X11_must S_1 80 (bI false) h = _ from r1)]
    dsimp only
    rw [bs_ (gi80 g1 19), bd.1, if_neg (by decide)]
