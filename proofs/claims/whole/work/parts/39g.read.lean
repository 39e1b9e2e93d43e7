/-! reading: the other side's tests, from the start -/
def RBr (h : AH) (F : Nat) (b : Nat → Nat) (t n : Nat) (ord : Bool) (i lv c o : Nat) (P : List (Nat × Nat)) (r : Rs) : Prop := match r with
  | .inl j => RBd 1 h F 0 b t j
  | .inr (i', lv', d) => ∃ h' F' c' N, F ≤ F' + 2 * (i' - i) ∧ Lx 1 F 0 h = Lx 1 F' 2 h' ∧ Eqv PE h h' ∧ MS h' b t n ord i' lv' c' o P ∧ Cod h h' c ∧ TstM ord (h'.2.1 91) (h'.2.1 92) N c c' d (lv' - lv)
def RPt (h : AH) (F : Nat) (b : Nat → Nat) (t n : Nat) (ord : Bool) (i lv c o : Nat) (P : List (Nat × Nat)) (r : Rs) : Prop := match r with
  | .inl j => RBd 1 h F 0 b t j
  | .inr (i', lv', d) => ∃ h' F' W c', F ≤ F' + 2 * (i' - i) ∧ Lx 1 F 0 h = Lx 1 F' 2 h' ∧ Eqv PE h h' ∧ MS h' b t n ord i' lv' c' o (W ++ P) ∧ Cod h h' c ∧ TdM h' ord W c c' d (lv' - lv)
def RTt (h : AH) (F : Nat) (b : Nat → Nat) (t n : Nat) (ord : Bool) (i lv0 c0 o : Nat) (P : List (Nat × Nat)) (r : Rs) : Prop := match r with
  | .inl j => RBd 1 h F 0 b t j
  | .inr (i', lv', d) => ∃ h' F' W p q c' d0, F ≤ F' + 2 * (i' - i) ∧ Lx 1 F 0 h = Lx 1 F' 2 h' ∧ Eqv PE h h' ∧ MS h' b t n ord i' lv' c' o (W ++ (eJ 29 q ++ (eJ 30 p ++ P))) ∧ TeM h' ord W p q c0 c' d0 (lv' - lv0) ∧ d = joinO (p.map Prod.snd) (joinA (q.map Prod.snd) d0) ∧ Cod h h' c0 ∧ tkK b t i' ≠ 257 ∧ tkK b t i' ≠ 256
theorem m_nots {b : Nat → Nat} {t n lv c o : Nat} {ord : Bool} {Q : List (Nat × Nat)} : ∀ (m v i : Nat) (h : AH), MS h b t n ord i lv c o (rpNt v ++ Q) → n < m + i → ∃ h', (∀ F, Lx 1 (F + notsS (tkK b t) m i) 0 h = Lx 1 F 0 h') ∧ Eqv PE h h' ∧ MS h' b t n ord (i + notsS (tkK b t) m i) lv c o (rpNt (v + notsS (tkK b t) m i) ++ Q) ∧ ∀ j, h'.2.1 91 j = h.2.1 91 j ∧ h'.2.1 92 j = h.2.1 92 j
  | 0, v, i, h, ms, hm => by
    have := ms.1.2.2
    omega
  | m + 1, v, i, h, ms, hm => by
    rw [notsS]
    by_cases e : tkK b t i = 258
    · rw [if_pos e]
      obtain ⟨h1, h2, r1, r2, e2, ms2, o2⟩ := m_pushNext (op := 28) ms (by omega) (by decide)
      obtain ⟨h3, r3, e3, ms3, o3⟩ := m_nots m (v + 1) (i + 1) h2 ms2 (by omega)
      refine ⟨h3, fun F => ?_, e2.trans e3, ?_, fun j => ⟨(o3 j).1.trans (o2 j).1, (o3 j).2.trans (o2 j).2⟩⟩
      · rw [← Nat.add_assoc, lx_0 ms.2.1]
        have r : f_X11_readPlain S_1 80 h = some (0, h2) := by
          unfold f_X11_readPlain
          rw [bs_ (ck_80 h), bs_ (show f_X11_isWord S_1 80 (14836 : Int64) h = _ from m_isWord (k := 2) ms.1.1 (by decide)), decide_eq_true (show tkK b t i = 256 + 2 from e)]
          dsimp only
          rw [if_neg (show ¬ bI true = 0 by decide), bs_ (ck_80 h), bs_ (show f_X11_push S_1 80 (28 : Int32) (0 : Int32) h = _ from r1)]
          dsimp only
          rw [bs_ (ck_80 h1), bs_ r2]
        rw [bs_ r]
        exact r3 F
      · rw [show i + (notsS (tkK b t) m (i + 1) + 1) = i + 1 + notsS (tkK b t) m (i + 1) by omega, show v + (notsS (tkK b t) m (i + 1) + 1) = v + 1 + notsS (tkK b t) m (i + 1) by omega]
        exact ms3
    · rw [if_neg e]
      exact ⟨h, fun F => rfl, Eqv.refl h, ms, fun j => ⟨rfl, rfl⟩⟩
theorem drA_3 {Q : List (Nat × Nat)} (h : hdL 3 Q) : drA Q = Q ∧ cmpH Q = false := by
  rcases Q with _ | ⟨x, Q⟩
  · exact ⟨rfl, rfl⟩
  · have h : bnO x.1 < 3 := h
    have : 29 ≤ x.1 := by
      apply Classical.byContradiction
      intro z
      have : ∀ y, y < 29 → 3 ≤ bnO y := by decide
      have := this x.1 (by omega)
      omega
    have e : drA (x :: Q) = x :: Q := by
      rw [drA, if_neg (by omega)]
    refine ⟨e, ?_⟩
    unfold cmpH
    rw [e]
    exact decide_eq_false (by omega)
theorem drA_nots {cnt : Nat} {Q : List (Nat × Nat)} (h : hdL 3 Q) : cmpH (rpNt cnt ++ Q) = false ∧ hdL 5 (rpNt cnt ++ Q) ∧ drA (rpNt cnt ++ Q) = rpNt cnt ++ Q := by
  rcases cnt with _ | m
  · exact ⟨(drA_3 h).2, hdL_le (by decide) h, (drA_3 h).1⟩
  · exact ⟨rfl, (show bnO 28 < 5 by decide), rfl⟩
/-- behind a sum, where a test is read -/
theorem m_bsT {h : AH} {b : Nat → Nat} {t n i lv c o : Nat} {ord : Bool} {P : List (Nat × Nat)} (k : MS h b t n ord i lv c o P) (na : noAr (tkK b t i)) (hi : inV P ≠ 32) : f_X11_behindSum S_1 80 1 h = if cmpH P = true then some ((2 : Int32), h) else f_X11_behindSum_j224 S_1 80 (if tkK b t i = 60 then 25 else if tkK b t i = 62 then 26 else 27) 80 (bI (decide (tkK b t i = 60 ∨ tkK b t i = 62 ∨ tkK b t i = 61))) h := by
  have n4 := k.n4
  have b4 := k.2.2.2.2.2.2.2.2.1
  have j163 : f_X11_behindSum_j163 S_1 80 h = if cmpH P = true then some ((2 : Int32), h) else f_X11_behindSum_j224 S_1 80 (if tkK b t i = 60 then 25 else if tkK b t i = 62 then 26 else 27) 80 (bI (decide (tkK b t i = 60 ∨ tkK b t i = 62 ∨ tkK b t i = 61))) h := by
    unfold f_X11_behindSum_j163
    rw [bs_ (ck_80 h), bs_ (m_isCompared k.2.2.2.2.2.1.1 k.2.2.2.2.2.1.2 (by omega))]
    dsimp only
    by_cases cm : cmpH P = true
    · rw [if_pos cm, cm, if_neg (show ¬ bI true = 0 by decide)]
    · have cm' : cmpH P = false := by cases q : cmpH P with
        | true => exact absurd q cm
        | false => rfl
      rw [if_neg cm, cm', if_pos (show bI false = 0 from rfl), bs_ (ck_80 h), bs_ (show f_X11_isSign S_1 80 (60 : Int32) h = _ from m_isSign (x := 60) k.1.1 (by decide) (by decide))]
      dsimp only
      by_cases c1 : tkK b t i = 60
      · rw [decide_eq_true c1, if_neg (show ¬ bI true = 0 by decide), if_pos c1, decide_eq_true (show tkK b t i = 60 ∨ tkK b t i = 62 ∨ tkK b t i = 61 from Or.inl c1)]
        unfold f_X11_behindSum_j202
        rw [if_neg (show ¬ (25 : Int32) = 27 by decide)]
        rfl
      · rw [decide_eq_false c1, if_pos (show bI false = 0 from rfl), if_neg c1, bs_ (ck_80 h), bs_ (show f_X11_isSign S_1 80 (62 : Int32) h = _ from m_isSign (x := 62) k.1.1 (by decide) (by decide))]
        dsimp only
        by_cases c2 : tkK b t i = 62
        · rw [decide_eq_true c2, if_neg (show ¬ bI true = 0 by decide), if_pos c2, decide_eq_true (show tkK b t i = 60 ∨ tkK b t i = 62 ∨ tkK b t i = 61 from Or.inr (Or.inl c2))]
          unfold f_X11_behindSum_j202
          rw [if_neg (show ¬ (26 : Int32) = 27 by decide)]
          rfl
        · rw [decide_eq_false c2, if_pos (show bI false = 0 from rfl), if_neg c2]
          unfold f_X11_behindSum_j202
          rw [if_pos (rfl : (27 : Int32) = 27), bs_ (ck_80 h), bs_ (show f_X11_isSign S_1 80 (61 : Int32) h = _ from m_isSign (x := 61) k.1.1 (by decide) (by decide))]
          dsimp only
          by_cases c3 : tkK b t i = 61
          · rw [decide_eq_true c3, if_neg (show ¬ bI true = 0 by decide), decide_eq_true (show tkK b t i = 60 ∨ tkK b t i = 62 ∨ tkK b t i = 61 from Or.inr (Or.inr c3))]
            rfl
          · rw [decide_eq_false c3, if_pos (show bI false = 0 from rfl), decide_eq_false (show ¬ (tkK b t i = 60 ∨ tkK b t i = 62 ∨ tkK b t i = 61) by omega)]
            rfl
  rw [m_behind k.1.1, arI_no na]
  unfold f_X11_behindSum_j71
  rw [if_pos rfl, bs_ (ck_80 h), bs_ (m_inner k.2.2.2.2.2.1.1 k.2.2.2.2.2.1.2 (by omega))]
  dsimp only
  rw [if_neg hi, if_neg (show ¬ (1 : Int32) = 0 by decide)]
  by_cases c : inV P = (-1 : Int32)
  · rw [if_pos c]; exact j163
  · rw [if_neg c]; exact j163
theorem m_plain {h : AH} {b : Nat → Nat} {t n i lv c o k F : Nat} {ord : Bool} {Q : List (Nat × Nat)} {br : Nat → Nat → Rs} (ho : o + k = 8) (hQ : hdL 3 Q) (iQ : inV Q ≠ 32) (HB : ∀ (h : AH) (i lv c : Nat) (P : List (Nat × Nat)) (F : Nat), MS h b t n ord i lv c o P → 2 * (n - i) + 10 ≤ F → tkK b t i = 40 → RBr h F b t n ord i lv c o P (br i lv)) (GB : ∀ i lv, i ≤ n → tkK b t i = 40 → Go1 n i lv (br i lv)) (ms : MS h b t n ord i lv c o Q) (hF : 2 * (n - i) + 10 ≤ F) : RPt h F b t n ord i lv c o Q (plainS (tkK b t) (sumS (tkK b t) (tkU b t) ord k) br i lv) := by
  have tkn := ms.1.2.1
  have n4 := tkn.1
  have hc := nots_le (m := 402) tkn ms.1.2.2
  have he := nots_end (K := tkK b t) 402 i (by omega)
  obtain ⟨h1, r1, e1, ms1, o1⟩ := m_nots 402 0 i h ms (by omega)
  unfold plainS
  rw [Nat.zero_add] at ms1
  generalize notsS (tkK b t) 402 i = cnt at hc he r1 ms1
  obtain ⟨i2, hi2⟩ : ∃ i2, i2 = i + cnt := ⟨_, rfl⟩
  rw [← hi2] at hc he ms1 ⊢
  obtain ⟨F1, rfl⟩ : ∃ x, F = x + cnt := ⟨F - cnt, by omega⟩
  have r1 := r1 F1
  obtain ⟨dn1, dn2, dn3⟩ := drA_nots (cnt := cnt) hQ
  by_cases c40 : tkK b t i2 = 40
  · rw [if_pos c40]
    have hb := HB h1 i2 lv c _ F1 ms1 (by omega) c40
    have gb := GB i2 lv hc c40
    revert hb gb
    rcases br i2 lv with j | ⟨i', lv', d⟩
    · exact fun z _ => RBd.step r1 e1 z
    · rintro ⟨h2, F2, c2, N, f2, r2, e2, ms2, cd2, s2⟩ ⟨g1, g2, g3, g4⟩
      refine ⟨h2, F2, rpNt cnt, c2, by omega, r1.trans r2, e1.trans e2, ms2, fun j hj => ⟨(cd2 j hj).1.trans (o1 j).1, (cd2 j hj).2.trans (o1 j).2⟩, cnt, Or.inl ⟨d, N, rfl, s2, rfl⟩⟩
  · rw [if_neg c40]
    unfold cmpS
    have hs := m_sum (x1 := 1) k o h1 i2 lv c (rpNt cnt ++ Q) F1 0 ho dn2 ms1 (Or.inr ⟨rfl, he, c40⟩) (by omega)
    have gs := sum_go (U := tkU b t) (ord := ord) tkn k i2 lv hc
    revert hs gs
    rcases sumS (tkK b t) (tkU b t) ord k i2 lv with j | ⟨i3, lv3, d1⟩
    · exact fun z _ => RBd.step r1 e1 z
    · rintro ⟨h2, F2, p, q, c2, d0, f2, r2, e2, ms2, pd2, rfl, cd2, na2⟩ ⟨g1, g2, g3, g4⟩
      dsimp only
      have iv2 : inV (eL q ++ (eL p ++ (rpNt cnt ++ Q))) ≠ 32 := by
        rw [pd2.hinV9, inV_all _ _ fun x hx => by have := rpN_in cnt x hx; omega]
        exact iQ
      have cm2 : cmpH (eL q ++ (eL p ++ (rpNt cnt ++ Q))) = false := by
        unfold cmpH
        rw [pd2.cmpH]
        exact dn1
      obtain ⟨F3, rfl⟩ : ∃ x, F2 = x + 2 := ⟨F2 - 2, by omega⟩
      have l3 := lx_3 (x1 := 1) (F := F3 + 1) ms2.2.1
      have bt := m_bsT ms2 na2 iv2
      rw [cm2, if_neg (by decide)] at bt
      by_cases cs : tkK b t i3 = 60 ∨ tkK b t i3 = 62 ∨ tkK b t i3 = 61
      · rw [if_pos cs]
        rw [decide_eq_true cs] at bt
        have hl := tkn.lt g2 (by omega)
        have opv : (if tkK b t i3 = 60 then (25 : Int32) else if tkK b t i3 = 62 then 26 else 27) = nI (opN (tkK b t i3)) := by
          rcases cs with e | e | e <;> rw [e] <;> decide
        obtain ⟨op1, op2⟩ := op_cmp cs
        rw [opv] at bt
        obtain ⟨h3, r3, e3, ms3⟩ := m_must1 ms2 (by omega)
        obtain ⟨h4, c4, r4, e4, ms4, cd4, w4, N4, s4⟩ := m_set5' ms3 (pd2.n e3) dn2
        have w2 := ms2.2.2.2.2.2.2.2.1
        have s4l := s4.lt
        have len : (rpNt cnt ++ Q).length ≤ i3 := by
          have := ms2.2.2.2.2.2.2.2.2.1
          rw [List.length_append, List.length_append] at this
          omega
        obtain ⟨h5, r5, e5, ms5, o5⟩ := m_pushAt (op := opN (tkK b t i3)) (x := 0) ms4 (by omega) (by decide) (by omega) (by omega)
        have bs : f_X11_behindSum S_1 80 1 h2 = some (1, h5) := by
          rw [bt]
          unfold f_X11_behindSum_j224
          rw [bs_ (ck_80 h2), bs_ (show f_X11_must S_1 80 (bI true) h2 = _ from r3)]
          dsimp only
          rw [bs_ (gi80 h3 19), ms3.2.1, if_pos rfl, bs_ (ck_80 h3), bs_ (show f_X11_settle S_1 80 (5 : Int32) h3 = _ from r4)]
          dsimp only
          rw [bs_ (ck_80 h4), bs_ (show f_X11_push S_1 80 (nI (opN (tkK b t i3))) (0 : Int32) h4 = _ from r5)]
        have L5 : Lx 1 (F1 + cnt) 0 h = Lx 1 (F3 + 1) 1 h5 := by
          rw [r1, r2, show F3 + 2 = F3 + 1 + 1 from rfl, l3, bs_ bs]
        have E5 : Eqv PE h h5 := e1.trans (e2.trans ((e3.mono PN_E).trans ((e4.mono PSe_E).trans e5)))
        have C5 : Cod h h5 c := fun j hj => by
          have a := cd2 j hj
          have a3 := Cod.n (c := c) e3 j hj
          have a4 := cd4 j hj
          exact ⟨(o5 j).1.trans (a4.1.trans (a3.1.trans (a.1.trans (o1 j).1))), (o5 j).2.trans (a4.2.trans (a3.2.trans (a.2.trans (o1 j).2)))⟩
        have hs2 := m_sum (x1 := 1) k o h5 (i3 + 1) lv3 c4 ((opN (tkK b t i3), 0) :: (rpNt cnt ++ Q)) (F3 + 1) 1 ho (show bnO (opN (tkK b t i3)) < 5 by rw [bn_cmp _ op2 op1]; decide) ms5 (Or.inl rfl) (by omega)
        have gs2 := sum_go (U := tkU b t) (ord := ord) tkn k (i3 + 1) lv3 (by omega)
        revert hs2 gs2
        rcases sumS (tkK b t) (tkU b t) ord k (i3 + 1) lv3 with j | ⟨i4, lv4, d2⟩
        · exact fun z _ => RBd.step L5 E5 z
        · rintro ⟨h6, F6, p6, q6, c6, d6, f6, r6, e6, ms6, pd6, rfl, cd6, na6⟩ ⟨y1, y2, y3, y4⟩
          have iv6 : inV (eL q6 ++ (eL p6 ++ ((opN (tkK b t i3), 0) :: (rpNt cnt ++ Q)))) ≠ 32 := by
            rw [pd6.hinV9]
            show (if 31 ≤ opN (tkK b t i3) then nI (opN (tkK b t i3)) else inV (rpNt cnt ++ Q)) ≠ 32
            rw [if_neg (by omega), inV_all _ _ fun x hx => by have := rpN_in cnt x hx; omega]
            exact iQ
          have cm6 : cmpH (eL q6 ++ (eL p6 ++ ((opN (tkK b t i3), 0) :: (rpNt cnt ++ Q)))) = true := by
            unfold cmpH
            rw [pd6.cmpH, drA, if_neg (show ¬ (20 ≤ (opN (tkK b t i3), 0).1 ∧ (opN (tkK b t i3), 0).1 ≤ 24) by show ¬ (20 ≤ opN (tkK b t i3) ∧ opN (tkK b t i3) ≤ 24); omega)]
            exact decide_eq_true (show 25 ≤ opN (tkK b t i3) ∧ opN (tkK b t i3) ≤ 27 by omega)
          have bt6 := m_bsT ms6 na6 iv6
          rw [if_pos cm6] at bt6
          obtain ⟨F7, rfl⟩ : ∃ x, F6 = x + 1 := ⟨F6 - 1, by omega⟩
          refine ⟨h6, F7, eL q6 ++ (eL p6 ++ ((opN (tkK b t i3), 0) :: rpNt cnt)), c6, by omega, ?_, E5.trans e6, ?_, fun j hj => ⟨(cd6 j (by omega)).1.trans (C5 j hj).1, (cd6 j (by omega)).2.trans (C5 j hj).2⟩, cnt, Or.inr ⟨p6, q6, c4, _, lv3 - lv, N4, d6, lv4 - lv3, opN (tkK b t i3), rfl, op1, op2, s4.cong fun j hj => ⟨(cd6 j hj).1.trans (o5 j).1, (cd6 j hj).2.trans (o5 j).2⟩, pd6, by omega, rfl⟩⟩
          · rw [L5, r6, lx_3 ms6.2.1, bs_ bt6]
          · rw [List.append_assoc, List.append_assoc, List.cons_append]
            exact ms6
      · rw [if_neg cs]
        rw [decide_eq_false cs] at bt
        obtain ⟨h3, r3, e3, bd⟩ := m_must0 ms2
        refine RBd.step (r1.trans r2) (e1.trans e2) ⟨h3, ?_, e3, bd⟩
        have bs : f_X11_behindSum S_1 80 1 h2 = some (1, h3) := by
          rw [bt]
          unfold f_X11_behindSum_j224
          rw [bs_ (ck_80 h2), bs_ (show f_X11_must S_1 80 (bI false) h2 = _ from r3)]
          dsimp only
          rw [bs_ (gi80 h3 19), bd.1, if_neg (by decide)]
        rw [show F3 + 2 = F3 + 1 + 1 from rfl, l3, bs_ bs]
        exact lx_bad bd.1
