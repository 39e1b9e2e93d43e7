/-! reading: the other side's sums, whole -/
def noAr (K : Nat) : Prop := K ≠ 42 ∧ K ≠ 47 ∧ K ≠ 37 ∧ K ≠ 43 ∧ K ≠ 45
def arI (K : Nat) : Int32 := if K = 43 then 20 else if K = 45 then 21 else if K = 42 then 22 else if K = 47 then 23 else if K = 37 then 24 else -1
theorem arI_no {K : Nat} (h : noAr K) : arI K = -1 := by
  obtain ⟨a, b, c, d, e⟩ := h
  unfold arI
  rw [if_neg d, if_neg e, if_neg a, if_neg b, if_neg c]
theorem m_behind {h : AH} {b : Nat → Nat} {t i : Nat} (c : Cur h b t i) (x1 : Int32) : f_X11_behindSum S_1 80 x1 h = f_X11_behindSum_j71 S_1 80 x1 (arI (tkK b t i)) h := by
  unfold f_X11_behindSum arI
  rw [bs_ (ck_80 h), bs_ (show f_X11_isSign S_1 80 (43 : Int32) h = _ from m_isSign (x := 43) c (by decide) (by decide))]
  dsimp only
  by_cases c1 : tkK b t i = 43
  · rw [decide_eq_true c1, if_neg (show ¬ bI true = 0 by decide), if_pos c1]
  · rw [decide_eq_false c1, if_pos (show bI false = 0 from rfl), if_neg c1, bs_ (ck_80 h), bs_ (show f_X11_isSign S_1 80 (45 : Int32) h = _ from m_isSign (x := 45) c (by decide) (by decide))]
    dsimp only
    by_cases c2 : tkK b t i = 45
    · rw [decide_eq_true c2, if_neg (show ¬ bI true = 0 by decide), if_pos c2]
    · rw [decide_eq_false c2, if_pos (show bI false = 0 from rfl), if_neg c2, bs_ (ck_80 h), bs_ (show f_X11_isSign S_1 80 (42 : Int32) h = _ from m_isSign (x := 42) c (by decide) (by decide))]
      dsimp only
      by_cases c3 : tkK b t i = 42
      · rw [decide_eq_true c3, if_neg (show ¬ bI true = 0 by decide), if_pos c3]
      · rw [decide_eq_false c3, if_pos (show bI false = 0 from rfl), if_neg c3, bs_ (ck_80 h), bs_ (show f_X11_isSign S_1 80 (47 : Int32) h = _ from m_isSign (x := 47) c (by decide) (by decide))]
        dsimp only
        by_cases c4 : tkK b t i = 47
        · rw [decide_eq_true c4, if_neg (show ¬ bI true = 0 by decide), if_pos c4]
        · rw [decide_eq_false c4, if_pos (show bI false = 0 from rfl), if_neg c4, bs_ (ck_80 h), bs_ (show f_X11_isSign S_1 80 (37 : Int32) h = _ from m_isSign (x := 37) c (by decide) (by decide))]
          dsimp only
          by_cases c5 : tkK b t i = 37
          · rw [decide_eq_true c5, if_neg (show ¬ bI true = 0 by decide), if_pos c5]
          · rw [decide_eq_false c5, if_pos (show bI false = 0 from rfl), if_neg c5]
/-- a times sign -/
theorem m_bsMul {h : AH} {b : Nat → Nat} {t n i lv c o c0 L : Nat} {ord : Bool} {P : List (Nat × Nat)} {p q : Option (Nat × DD)} {d : DD} (x1 : Int32) (k : MS h b t n ord i lv c o (eL q ++ (eL p ++ P))) (pd : PdM h ord p q c0 c d L) (hP : hdL 5 P) (hk : tkK b t i = 42 ∨ tkK b t i = 47 ∨ tkK b t i = 37) : ∃ h' c', f_X11_behindSum S_1 80 x1 h = some (1, h') ∧ Eqv PE h h' ∧ MS h' b t n ord (i + 1) lv c' o (eL (some (opN (tkK b t i), joinD q d)) ++ (eL p ++ P)) ∧ Cod h h' c0 ∧ ∃ m1 L1 L2, L = L1 + L2 ∧ P1M ord (h'.2.1 91) (h'.2.1 92) 20 22 p c0 m1 L1 ∧ P1M ord (h'.2.1 91) (h'.2.1 92) 22 25 (some (opN (tkK b t i), joinD q d)) m1 c' L2 := by
  obtain ⟨h1, c1, r1, e1, ms1, cd1, w1, m1, L1, L2, N, eL', k1, k2⟩ := m_set6 k pd hP
  obtain ⟨o1, o2⟩ := op_mul hk
  obtain ⟨h2, h3, r2, r3, e3, ms3, cd3⟩ := m_pushNext (op := opN (tkK b t i)) ms1 (by omega) (by omega)
  have ar : arI (tkK b t i) = nI (opN (tkK b t i)) := by
    rcases hk with hk | hk | hk <;> rw [hk] <;> decide
  refine ⟨h3, c1, ?_, (e1.mono PSe_E).trans e3, ms3, fun j hj => ⟨(cd3 j).1.trans (cd1 j hj).1, (cd3 j).2.trans (cd1 j hj).2⟩, m1, L1, L2, eL', k1.cong fun j _ => cd3 j, o1, o2, N, k2.cong fun j _ => cd3 j⟩
  rw [m_behind k.1.1, ar]
  unfold f_X11_behindSum_j71
  rw [if_neg (show ¬ nI (opN (tkK b t i)) = (-1 : Int32) by rw [nl_m1 (by omega)]; exact id), bs_ (m_binds S_1 h _ (by omega)), bn_mul _ o2 o1]
  dsimp only
  rw [bs_ (ck_80 h), bs_ r1]
  dsimp only
  rw [bs_ (ck_80 h1), bs_ r2]
  dsimp only
  rw [bs_ (ck_80 h2), bs_ r3]
/-- a plus, a minus -/
theorem m_bsAdd {h : AH} {b : Nat → Nat} {t n i lv c o c0 L : Nat} {ord : Bool} {P : List (Nat × Nat)} {p q : Option (Nat × DD)} {d : DD} (x1 : Int32) (k : MS h b t n ord i lv c o (eL q ++ (eL p ++ P))) (pd : PdM h ord p q c0 c d L) (hP : hdL 5 P) (hk : tkK b t i = 43 ∨ tkK b t i = 45) : ∃ h' c', f_X11_behindSum S_1 80 x1 h = some (1, h') ∧ Eqv PE h h' ∧ MS h' b t n ord (i + 1) lv c' o (eL none ++ (eL (some (opN (tkK b t i), joinD p (joinD q d))) ++ P)) ∧ Cod h h' c0 ∧ P1M ord (h'.2.1 91) (h'.2.1 92) 20 22 (some (opN (tkK b t i), joinD p (joinD q d))) c0 c' L := by
  obtain ⟨h1, c1, r1, e1, ms1, cd1, w1, N, k2⟩ := m_set5' k pd hP
  obtain ⟨o1, o2⟩ := op_add hk
  obtain ⟨h2, h3, r2, r3, e3, ms3, cd3⟩ := m_pushNext (op := opN (tkK b t i)) ms1 (by omega) (by omega)
  have ar : arI (tkK b t i) = nI (opN (tkK b t i)) := by
    rcases hk with hk | hk <;> rw [hk] <;> decide
  refine ⟨h3, c1, ?_, (e1.mono PSe_E).trans e3, ms3, fun j hj => ⟨(cd3 j).1.trans (cd1 j hj).1, (cd3 j).2.trans (cd1 j hj).2⟩, o1, o2, N, k2.cong fun j _ => cd3 j⟩
  rw [m_behind k.1.1, ar]
  unfold f_X11_behindSum_j71
  rw [if_neg (show ¬ nI (opN (tkK b t i)) = (-1 : Int32) by rw [nl_m1 (by omega)]; exact id), bs_ (m_binds S_1 h _ (by omega)), bn_add _ o2 o1]
  dsimp only
  rw [bs_ (ck_80 h), bs_ r1]
  dsimp only
  rw [bs_ (ck_80 h1), bs_ r2]
  dsimp only
  rw [bs_ (ck_80 h2), bs_ r3]
def RBd (x1 : Int32) (h : AH) (F : Nat) (tn : Int32) (b : Nat → Nat) (t j : Nat) : Prop := ∃ h', Lx x1 F tn h = some (80, h') ∧ Eqv PE h h' ∧ Bad h' b t j
def RPm (x1 : Int32) (h : AH) (F : Nat) (tn : Int32) (b : Nat → Nat) (t n : Nat) (ord : Bool) (i lv c o : Nat) (P : List (Nat × Nat)) (r : Rs) : Prop := match r with
  | .inl j => RBd x1 h F tn b t j
  | .inr (i', lv', d) => ∃ h' F' c' N, F ≤ F' + 2 * (i' - i) ∧ Lx x1 F tn h = Lx x1 F' 3 h' ∧ Eqv PE h h' ∧ MS h' b t n ord i' lv' c' o P ∧ Cod h h' c ∧ SumM ord (h'.2.1 91) (h'.2.1 92) N c c' d (lv' - lv)
def RSm (x1 : Int32) (h : AH) (F : Nat) (tn : Int32) (b : Nat → Nat) (t n : Nat) (ord : Bool) (i lv0 c0 o : Nat) (P : List (Nat × Nat)) (r : Rs) : Prop := match r with
  | .inl j => RBd x1 h F tn b t j
  | .inr (i', lv', d) => ∃ h' F' p q c' d0, F ≤ F' + 2 * (i' - i) ∧ Lx x1 F tn h = Lx x1 F' 3 h' ∧ Eqv PE h h' ∧ MS h' b t n ord i' lv' c' o (eL q ++ (eL p ++ P)) ∧ PdM h' ord p q c0 c' d0 (lv' - lv0) ∧ d = joinD p (joinD q d0) ∧ Cod h h' c0 ∧ noAr (tkK b t i')
theorem RBd.step {x1 tn tn' : Int32} {h h1 : AH} {F F' : Nat} {b : Nat → Nat} {t j : Nat} (r : Lx x1 F tn h = Lx x1 F' tn' h1) (e : Eqv PE h h1) (k : RBd x1 h1 F' tn' b t j) : RBd x1 h F tn b t j := by
  obtain ⟨h', a, b', c⟩ := k
  exact ⟨h', r.trans a, e.trans b', c⟩
/-- a turn that takes a part -/
def TN (b : Nat → Nat) (t i : Nat) (tn : Int32) : Prop := tn = 1 ∨ tn = 0 ∧ tkK b t i ≠ 258 ∧ tkK b t i ≠ 40
theorem m_sumL {b : Nat → Nat} {t n : Nat} {ord : Bool} {x1 : Int32} {pt : Nat → Nat → Rs} {o c0 lv0 : Nat} {P : List (Nat × Nat)} (hP : hdL 5 P) (HG : ∀ i lv, i ≤ n → Go1 n i lv (pt i lv)) (HP : ∀ (h : AH) (i lv c : Nat) (Q : List (Nat × Nat)) (F : Nat) (tn : Int32), MS h b t n ord i lv c o Q → TN b t i tn → 2 * (n - i) + 10 ≤ F → RPm x1 h F tn b t n ord i lv c o Q (pt i lv)) : ∀ f p q i lv c h F tn m1 L1 L2, MS h b t n ord i lv c o (eL q ++ (eL p ++ P)) → P1M ord (h.2.1 91) (h.2.1 92) 20 22 p c0 m1 L1 → P1M ord (h.2.1 91) (h.2.1 92) 22 25 q m1 c L2 → lv - lv0 = L1 + L2 → lv0 ≤ lv → n < f + i → TN b t i tn → 2 * (n - i) + 10 ≤ F → RSm x1 h F tn b t n ord i lv0 c0 o P (sumL pt (tkK b t) f p q i lv) := by
  intro f
  induction f with
  | zero =>
    intro p q i lv c h F tn m1 L1 L2 ms _ _ _ _ hf
    have := ms.1.2.2
    omega
  | succ f ih =>
    intro p q i lv c h F tn m1 L1 L2 ms k1 k2 eLv hlv hf htn hF
    have hi := ms.1.2.2
    have tkn := ms.1.2.1
    have go := HG i lv hi
    have hp := HP h i lv c _ F tn ms htn hF
    have l1 := k1.le
    have l2 := k2.le
    rw [sumL]
    revert go hp
    rcases pt i lv with j | ⟨i', lv', d⟩
    · exact fun _ z => z
    · rintro ⟨g1, g2, g3, g4⟩ ⟨h1, F1, c1, N3, f1, r1, e1, ms1, cd1, s1⟩
      dsimp only
      have pd : PdM h1 ord p q c0 c1 d (lv' - lv0) := ⟨m1, c, L1, L2, lv' - lv, N3, by omega, k1.cong fun j hj => cd1 j (by omega), k2.cong fun j hj => cd1 j hj, s1⟩
      have e19 := ms1.2.1
      have cd0 : Cod h h1 c0 := fun j hj => cd1 j (by omega)
      obtain ⟨G, rfl⟩ : ∃ x, F1 = x + 1 := ⟨F1 - 1, by omega⟩
      have up : ∀ (h2 : AH) (r : Rs), Lx x1 (G + 1) 3 h1 = Lx x1 G 1 h2 → Eqv PE h1 h2 → Cod h1 h2 c0 → i' < n → RSm x1 h2 G 1 b t n ord (i' + 1) lv0 c0 o P r → Go1 n (i' + 1) lv' r → RSm x1 h F tn b t n ord i lv0 c0 o P r := fun h2 r r2 e2 cd2 hl z gz => by
        rcases r with j | ⟨i2, lv2, d2⟩
        · exact RBd.step (r1.trans r2) (e1.trans e2) z
        · obtain ⟨h', F', p', q', c', d0, z1, z2, z3, z4, z5, z6, z7, z8⟩ := z
          obtain ⟨y1, y2, _⟩ := gz
          exact ⟨h', F', p', q', c', d0, by omega, (r1.trans r2).trans z2, (e1.trans e2).trans z3, z4, z5, z6, (cd0.trans cd2 (Nat.le_refl _)).trans z7 (Nat.le_refl _), z8⟩
      by_cases cm : tkK b t i' = 42 ∨ tkK b t i' = 47 ∨ tkK b t i' = 37
      · have hl := tkn.lt g2 (by omega)
        rw [if_pos cm]
        obtain ⟨h2, c2, r2, e2, ms2, cd2, m2, L3, L4, eL2, y1, y2⟩ := m_bsMul x1 ms1 pd hP cm
        refine up h2 _ ?_ e2 cd2 hl (ih p _ (i' + 1) lv' c2 h2 G 1 m2 L3 L4 ms2 y1 y2 eL2 (by omega) (by omega) (Or.inl rfl) (by omega)) (sumL_go tkn HG _ _ _ _ _ (by omega))
        rw [lx_3 e19, bs_ r2]
      · rw [if_neg cm]
        by_cases ca : tkK b t i' = 43 ∨ tkK b t i' = 45
        · have hl := tkn.lt g2 (by omega)
          rw [if_pos ca]
          obtain ⟨h2, c2, r2, e2, ms2, cd2, y1⟩ := m_bsAdd x1 ms1 pd hP ca
          refine up h2 _ ?_ e2 cd2 hl (ih _ none (i' + 1) lv' c2 h2 G 1 c2 (lv' - lv0) 0 ms2 y1 ⟨rfl, rfl⟩ (by omega) (by omega) (by omega) (Or.inl rfl) (by omega)) (sumL_go tkn HG _ _ _ _ _ (by omega))
          rw [lx_3 e19, bs_ r2]
        · rw [if_neg ca]
          exact ⟨h1, G + 1, p, q, c1, d, f1, r1, e1, ms1, pd, rfl, cd0, by unfold noAr; omega⟩
theorem inV_eL {p : Option (Nat × DD)} {Q : List (Nat × Nat)} (h : ∀ x, x ∈ eL p → x.1 < 31) : inV (eL p ++ Q) = inV Q := by
  rcases p with _ | ⟨op, d⟩
  · rfl
  · have := h (op, 0) (List.mem_singleton.mpr rfl)
    show (if 31 ≤ op then nI op else inV Q) = inV Q
    rw [if_neg (by show ¬ 31 ≤ op; have : op < 31 := this; omega)]
theorem P1M.op {ord : Bool} {c a : Nat → Int32} {lo hi c0 m L : Nat} {p : Option (Nat × DD)} (k : P1M ord c a lo hi p c0 m L) (hh : hi ≤ 25) (hl : 20 ≤ lo) : ∀ x, x ∈ eL p → 20 ≤ x.1 ∧ x.1 < 25 := by
  rcases p with _ | ⟨op, d⟩
  · intro x hx
    cases hx
  · intro x hx
    have := List.mem_singleton.mp hx
    obtain ⟨k1, k2, _⟩ := k
    rw [this]
    exact ⟨by show 20 ≤ op; omega, by show op < 25; omega⟩
theorem PdM.hinV9 {h : AH} {ord : Bool} {p q : Option (Nat × DD)} {c0 c L : Nat} {d : DD} (k : PdM h ord p q c0 c d L) (P : List (Nat × Nat)) : inV (eL q ++ (eL p ++ P)) = inV P := by
  obtain ⟨m1, m2, L1, L2, L3, N, k1, k2, k3, k4⟩ := k
  rw [inV_eL fun x hx => by have := (k3.op (by decide) (by decide) x hx).2; omega, inV_eL fun x hx => by have := (k2.op (by decide) (by decide) x hx).2; omega]
theorem drA_eL {p : Option (Nat × DD)} {Q : List (Nat × Nat)} (h : ∀ x, x ∈ eL p → 20 ≤ x.1 ∧ x.1 < 25) : drA (eL p ++ Q) = drA Q := by
  rcases p with _ | ⟨op, d⟩
  · rfl
  · obtain ⟨a, b⟩ := h (op, 0) (List.mem_singleton.mpr rfl)
    have a : 20 ≤ op := a
    have b : op < 25 := b
    show (if 20 ≤ op ∧ op ≤ 24 then drA Q else (op, 0) :: Q) = drA Q
    rw [if_pos ⟨a, by omega⟩]
theorem PdM.cmpH {h : AH} {ord : Bool} {p q : Option (Nat × DD)} {c0 c L : Nat} {d : DD} (k : PdM h ord p q c0 c d L) (P : List (Nat × Nat)) : drA (eL q ++ (eL p ++ P)) = drA P := by
  obtain ⟨m1, m2, L1, L2, L3, N, k1, k2, k3, k4⟩ := k
  rw [drA_eL (k3.op (by decide) (by decide)), drA_eL (k2.op (by decide) (by decide))]
/-- a bracket that is closed -/
theorem m_pop {h : AH} {b : Nat → Nat} {t n i lv c o op : Nat} {ord : Bool} {P : List (Nat × Nat)} (k : MS h b t n ord i lv c (o + 1) ((op, 0) :: P)) (hop : 31 ≤ op) : ∃ h', h' = stI (stI h 80 29 (nI P.length)) 80 30 (nI o) ∧ (∀ v : Int32, ((gI S_1 h 80 11 29).bind fun v_20 => (pI S_1 h 80 11 29 (v_20 - (1 : Int32))).bind fun h_22 => (gI S_1 h_22 80 11 30).bind fun v_24 => (pI S_1 h_22 80 11 30 (v_24 - (1 : Int32))).bind fun h_26 => some (v, h_26)) = some (v, h')) ∧ Eqv PE h h' ∧ MS h' b t n ord i lv c o P ∧ ∀ j, h'.2.1 91 j = h.2.1 91 j ∧ h'.2.1 92 j = h.2.1 92 j := by
  obtain ⟨⟨q1, q2, q3⟩, a4, a5, ⟨a6, a7⟩, a8, ⟨a9, b1⟩, b2, b3, b4, b5⟩ := k
  rw [List.length_cons] at a9 b4
  rw [wtP, if_neg (show ¬ (op, 0).1 < 29 by show ¬ op < 29; omega)] at b3
  have e1 : Eqv PE h (stI (stI h 80 29 (nI P.length)) 80 30 (nI o)) := ((Eqv.refl h).si (PE_o (by omega))).si (PE_o (by omega))
  have oo : ∀ p j, ¬ (p = 80 ∧ (j = 29 ∨ j = 30)) → (stI (stI h 80 29 (nI P.length)) 80 30 (nI o)).2.1 p j = h.2.1 p j := fun p j z => by
    by_cases e : p = 80
    · subst e
      rw [ri_k (by omega), ri_k (by omega)]
    · rw [ri_p e, ri_p e]
  refine ⟨_, rfl, fun v => ?_, e1, ⟨⟨?_, q2, q3⟩, (oo _ _ (by omega)).trans a4, (oo _ _ (by omega)).trans a5, ⟨(oo _ _ (by omega)).trans a6, a7⟩, (oo _ _ (by omega)).trans a8, ⟨(ri_k (by decide)).trans (stI_s _ _ _ _), b1.2.2.2.2.cong fun p j hp _ => oo p j (by omega)⟩, stI_s _ _ _ _, by omega, by omega, by omega, b5.2⟩, fun j => ⟨oo _ _ (by omega), oo _ _ (by omega)⟩⟩
  · rw [bs_ (gi80 h 29), a9, nI_pre, bs_ (pi80 h 29 _), bs_ (gi80 _ 30), show (stI h 80 29 (nI P.length)).2.1 80 30 = nI (o + 1) from (ri_k (by decide)).trans b2, nI_pre, bs_ (pi80 _ 30 _)]
  · obtain ⟨⟨t1, t2, t3⟩, v14, v15, v16, v17⟩ := q1
    exact ⟨⟨(oo _ _ (by omega)).trans t1, t2, fun j hj => ⟨(oo _ _ (by omega)).trans (t3 j hj).1, (t3 j hj).2⟩⟩, (oo _ _ (by omega)).trans v14, (oo _ _ (by omega)).trans v15, (oo _ _ (by omega)).trans v16, v17⟩
theorem m_closeSq {h : AH} {b : Nat → Nat} {t n i lv c o c0 L : Nat} {ord : Bool} {P : List (Nat × Nat)} {p q : Option (Nat × DD)} {d : DD} (x1 : Int32) (k : MS h b t n ord i lv c (o + 1) (eL q ++ (eL p ++ ((32, 0) :: P)))) (pd : PdM h ord p q c0 c d L) (na : noAr (tkK b t i)) : (tkK b t i = 93 ∧ ∃ h' c' N, f_X11_behindSum S_1 80 x1 h = some (3, h') ∧ Eqv PE h h' ∧ MS h' b t n ord (i + 1) lv c' o P ∧ Cod h h' c0 ∧ SumM ord (h'.2.1 91) (h'.2.1 92) N c0 c' (joinD p (joinD q d)) L) ∨ (tkK b t i ≠ 93 ∧ ∃ h', f_X11_behindSum S_1 80 x1 h = some (3, h') ∧ Eqv PE h h' ∧ Bad h' b t i) := by
  have n4 := k.n4
  have iv := pd.hinV9 ((32, 0) :: P)
  have iv2 : inV ((32, 0) :: P) = 32 := rfl
  rw [iv2] at iv
  have inn := m_inner k.2.2.2.2.2.1.1 k.2.2.2.2.2.1.2 (by have := k.2.2.2.2.2.2.2.2.1; omega)
  rw [iv] at inn
  rw [m_behind k.1.1, arI_no na]
  unfold f_X11_behindSum_j71
  rw [if_pos rfl, bs_ (ck_80 h), bs_ inn]
  dsimp only
  rw [if_pos rfl, bs_ (ck_80 h), bs_ (show f_X11_isSign S_1 80 (93 : Int32) h = _ from m_isSign (x := 93) k.1.1 (by decide) (by decide))]
  dsimp only
  by_cases c93 : tkK b t i = 93
  · obtain ⟨h1, r1, e1, ms1⟩ := m_must1 k (by omega)
    obtain ⟨h2, c2, r2, e2, ms2, cd2, w2, N, s2⟩ := m_set5' ms1 (pd.n e1) (show bnO 32 < 5 by decide)
    obtain ⟨h3, hh3, r3, e3, ms3, cd3⟩ := m_pop ms2 (by decide)
    refine Or.inl ⟨c93, h3, c2, N, ?_, (e1.mono PN_E).trans ((e2.mono PSe_E).trans e3), ms3, ?_, s2.cong fun j _ => cd3 j⟩
    · rw [decide_eq_true c93, bs_ (ck_80 h), bs_ (show f_X11_must S_1 80 (bI true) h = _ from r1)]
      dsimp only
      rw [bs_ (gi80 h1 19), ms1.2.1, if_pos rfl, bs_ (ck_80 h1), bs_ (show f_X11_settle S_1 80 (5 : Int32) h1 = _ from r2)]
      dsimp only
      exact r3 3
    · intro j hj
      have a := Cod.n (c := c0) e1 j hj
      have b := cd2 j hj
      exact ⟨(cd3 j).1.trans (b.1.trans a.1), (cd3 j).2.trans (b.2.trans a.2)⟩
  · obtain ⟨h1, r1, e1, bd⟩ := m_must0 k
    refine Or.inr ⟨c93, h1, ?_, e1, bd⟩
    rw [decide_eq_false c93, bs_ (ck_80 h), bs_ (show f_X11_must S_1 80 (bI false) h = _ from r1)]
    dsimp only
    rw [bs_ (gi80 h1 19), bd.1, if_neg (by decide)]
theorem m_plainPart {h : AH} {b : Nat → Nat} {t i : Nat} (c : Cur h b t i) (h1 : tkK b t i ≠ 258) (h2 : tkK b t i ≠ 40) : f_X11_readPlain S_1 80 h = f_X11_readPart S_1 80 h := by
  have idb : ∀ X : Option (Int32 × AH), (X.bind fun z => match z with | (z_11, h_10) => some (z_11, h_10)) = X := fun X => by
    rcases X with _ | ⟨v, g⟩ <;> rfl
  unfold f_X11_readPlain
  rw [bs_ (ck_80 h), bs_ (show f_X11_isWord S_1 80 (14836 : Int64) h = _ from m_isWord (k := 2) c (by decide)), decide_eq_false (show ¬ tkK b t i = 256 + 2 from h1)]
  dsimp only
  rw [if_pos (show bI false = 0 from rfl), bs_ (ck_80 h), bs_ (show f_X11_isSign S_1 80 (40 : Int32) h = _ from m_isSign (x := 40) c (by decide) (by decide)), decide_eq_false h2]
  dsimp only
  rw [if_pos (show bI false = 0 from rfl), bs_ (ck_80 h)]
  exact idb _
theorem lx_part {x1 : Int32} {F : Nat} {h : AH} {b : Nat → Nat} {t i : Nat} {tn : Int32} (e : h.2.1 80 19 = 0) (c : Cur h b t i) (k : TN b t i tn) : Lx x1 (F + 1) tn h = (f_X11_readPart S_1 80 h).bind fun z => Lx x1 F z.1 z.2 := by
  rcases k with rfl | ⟨rfl, k1, k2⟩
  · exact lx_1 e
  · rw [lx_0 e, m_plainPart c k1 k2]
theorem m_part {b : Nat → Nat} {t n : Nat} {ord : Bool} {x1 : Int32} {o : Nat} {br : Nat → Nat → Rs} (HB : ∀ (h : AH) (i lv c : Nat) (P : List (Nat × Nat)) (F : Nat) (tn : Int32), MS h b t n ord i lv c o P → TN b t i tn → 2 * (n - i) + 10 ≤ F → tkK b t i = 91 → RPm x1 h F tn b t n ord i lv c o P (br i lv)) (h : AH) (i lv c : Nat) (P : List (Nat × Nat)) (F : Nat) (tn : Int32) (ms : MS h b t n ord i lv c o P) (htn : TN b t i tn) (hF : 2 * (n - i) + 10 ≤ F) : RPm x1 h F tn b t n ord i lv c o P (partS (tkK b t) (tkU b t) ord br i lv) := by
  unfold partS
  by_cases e : tkK b t i = 91
  · rw [if_pos e]
    exact HB h i lv c P F tn ms htn hF e
  · rw [if_neg e]
    have q := m_leafS ms e
    have g := leaf_go (U := tkU b t) (ord := ord) (lv := lv) ms.1.2.1 ms.1.2.2
    obtain ⟨F, rfl⟩ : ∃ x, F = x + 2 := ⟨F - 2, by omega⟩
    have lp := lx_part (x1 := x1) (F := F + 1) ms.2.1 ms.1.1 htn
    revert q g
    rcases leafS (tkK b t) (tkU b t) ord i lv with j | ⟨i', lv', d⟩
    · rintro ⟨h', r, e', bd⟩ -
      exact ⟨h', by rw [show F + 2 = F + 1 + 1 from rfl, lp, bs_ r]; exact lx_bad bd.1, e', bd⟩
    · rintro ⟨h', c', r, e', ms', cd, N, s⟩ ⟨g1, _⟩
      exact ⟨h', F + 1, c', N, by omega, by rw [show F + 2 = F + 1 + 1 from rfl, lp, bs_ r], e', ms', cd, s⟩
theorem readPart_br {h : AH} {b : Nat → Nat} {t i : Nat} (c : Cur h b t i) (e : tkK b t i = 91) : f_X11_readPart S_1 80 h = (f_X11_openBracket S_1 80 (nI 32) h).bind fun z => some ((1 : Int32), z.2) := by
  unfold f_X11_readPart
  rw [bs_ (ck_80 h), bs_ (show f_X11_isSign S_1 80 (91 : Int32) h = _ from m_isSign (x := 91) c (by decide) (by decide)), decide_eq_true e]
  dsimp only
  rw [if_neg (show ¬ bI true = 0 by decide), bs_ (ck_80 h)]
  rfl
theorem m_sum {b : Nat → Nat} {t n : Nat} {ord : Bool} {x1 : Int32} : ∀ (k o : Nat) (h : AH) (i lv c : Nat) (P : List (Nat × Nat)) (F : Nat) (tn : Int32), o + k = 8 → hdL 5 P → MS h b t n ord i lv c o P → TN b t i tn → 2 * (n - i) + 10 ≤ F → RSm x1 h F tn b t n ord i lv c o P (sumS (tkK b t) (tkU b t) ord k i lv) := by
  intro k
  induction k with
  | zero =>
    intro o h i lv c P F tn ho hP ms htn hF
    have tkn := ms.1.2.1
    have n4 := tkn.1
    refine m_sumL (pt := partS (tkK b t) (tkU b t) ord fun i _ => .inl i) hP (part_go (br := fun i _ => .inl i) tkn fun i lv hi _ => ⟨Nat.le_refl _, hi⟩) (m_part fun h i lv c P F tn ms htn hF e => ?_) 402 none none i lv c h F tn c 0 0 ms ⟨rfl, rfl⟩ ⟨rfl, rfl⟩ (by omega) (Nat.le_refl _) (by omega) htn hF
    obtain ⟨F, rfl⟩ : ∃ x, F = x + 2 := ⟨F - 2, by omega⟩
    rcases m_open ms (op := 32) (by omega) (Or.inr rfl) with ⟨z, _⟩ | ⟨_, h', r, e', bd⟩
    · omega
    · refine ⟨h', ?_, e', bd⟩
      rw [show F + 2 = F + 1 + 1 from rfl, lx_part ms.2.1 ms.1.1 htn, readPart_br ms.1.1 e, bs_ r]
      exact lx_bad bd.1
  | succ k IH =>
    intro o h i lv c P F tn ho hP ms htn hF
    have tkn := ms.1.2.1
    have n4 := tkn.1
    have gb : ∀ i lv, i ≤ n → tkK b t i = 91 → Go1 n i lv (brS (tkK b t) 93 (sumS (tkK b t) (tkU b t) ord k (i + 1) lv)) := fun i lv hi e => by
      have := tkn.lt hi (by omega)
      exact br_go tkn (by decide) (sum_go tkn k (i + 1) lv (by omega))
    refine m_sumL (pt := partS (tkK b t) (tkU b t) ord fun i lv => brS (tkK b t) 93 (sumS (tkK b t) (tkU b t) ord k (i + 1) lv)) hP (part_go (br := fun i lv => brS (tkK b t) 93 (sumS (tkK b t) (tkU b t) ord k (i + 1) lv)) tkn gb) (m_part fun h i lv c P F tn ms htn hF e => ?_) 402 none none i lv c h F tn c 0 0 ms ⟨rfl, rfl⟩ ⟨rfl, rfl⟩ (by omega) (Nat.le_refl _) (by omega) htn hF
    have hl := tkn.lt ms.1.2.2 (by omega)
    obtain ⟨F, rfl⟩ : ∃ x, F = x + 1 := ⟨F - 1, by omega⟩
    rcases m_open ms (op := 32) (by omega) (Or.inr rfl) with ⟨z, h1, r1, e1, ms1, cd1⟩ | ⟨z, _⟩
    · have step : Lx x1 (F + 1) tn h = Lx x1 F 1 h1 := by
        rw [lx_part ms.2.1 ms.1.1 htn, readPart_br ms.1.1 e, bs_ r1]
        rfl
      have q := IH (o + 1) h1 (i + 1) lv c ((32, 0) :: P) F 1 (by omega) (show bnO 32 < 5 by decide) ms1 (Or.inl rfl) (by omega)
      have g := sum_go (U := tkU b t) (ord := ord) tkn k (i + 1) lv (by omega)
      unfold brS
      revert q g
      rcases sumS (tkK b t) (tkU b t) ord k (i + 1) lv with j | ⟨i', lv', d⟩
      · exact fun q _ => RBd.step step e1 q
      · rintro ⟨h2, F2, p, q, c2, d0, f2, r2, e2, ms2, pd2, rfl, cd2, na⟩ ⟨g1, g2, g3, g4⟩
        obtain ⟨G, rfl⟩ : ∃ x, F2 = x + 2 := ⟨F2 - 2, by omega⟩
        have l3 := lx_3 (x1 := x1) (F := G + 1) ms2.2.1
        dsimp only
        rcases m_closeSq x1 ms2 pd2 na with ⟨e93, h3, c3, N, r3, e3, ms3, cd3, s3⟩ | ⟨e93, h3, r3, e3, bd⟩
        · rw [if_pos e93]
          refine ⟨h3, G + 1, c3, N, by omega, ?_, e1.trans (e2.trans e3), ms3, (cd1.trans cd2 (Nat.le_refl _)).trans cd3 (Nat.le_refl _), s3⟩
          rw [step, r2, show G + 2 = G + 1 + 1 from rfl, l3, bs_ r3]
        · rw [if_neg e93]
          refine ⟨h3, ?_, e1.trans (e2.trans e3), bd⟩
          rw [step, r2, show G + 2 = G + 1 + 1 from rfl, l3, bs_ r3]
          exact lx_bad bd.1
    · omega
