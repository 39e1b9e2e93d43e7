/-! reading: the other side's sums -/
theorem SumM.up {ord : Bool} {c a : Nat → Int32} : ∀ {n i j : Nat} {d : DD} {L : Nat}, SumM ord c a n i j d L → SumM ord c a (n + 1) i j d L
  | 0, _, _, _, _, h => absurd h (by simp [SumM])
  | n + 1, i, j, d, L, h => by
    rcases h with h | ⟨m, j', d1, d2, L1, L2, op, h1, h2, h3⟩
    · exact Or.inl h
    · exact Or.inr ⟨m, j', d1, d2, L1, L2, op, h1.up, h2.up, h3⟩
theorem SumM.le {ord : Bool} {c a : Nat → Int32} {n i j : Nat} {d : DD} {L : Nat} (h : SumM ord c a n i j d L) : ∀ {m : Nat}, n ≤ m → SumM ord c a m i j d L
  | 0, hm => by
    have : n = 0 := by omega
    rw [this] at h; exact h
  | m + 1, hm => by
    by_cases e : n = m + 1
    · rw [← e]; exact h
    · exact (h.le (m := m) (by omega)).up
theorem SumM.opM {ord : Bool} {c a c' a' : Nat → Int32} {N1 N2 m c1 c2 L1 L2 op : Nat} {d1 d2 : DD} (h1 : SumM ord c a N1 m c1 d1 L1) (h2 : SumM ord c a N2 c1 c2 d2 L2) (e : ∀ k, k < c2 → c' k = c k ∧ a' k = a k) (ho : 20 ≤ op ∧ op < 25) (eo : c' c2 = nI op) : ∃ N, SumM ord c' a' N m (c2 + 1) (binD op d1 d2) (L1 + L2) := by
  have l1 := h1.lt
  have l2 := h2.lt
  refine ⟨(N1 + N2) + 1, Or.inr ⟨c1, c2, d1, d2, L1, L2, op, ?_, ?_, rfl, ho.1, ho.2, eo, rfl, rfl⟩⟩
  · exact (h1.cong fun k hk => e k (by omega)).le (by omega)
  · exact (h2.cong fun k hk => e k hk).le (by omega)
abbrev Lx (x1 : Int32) (F : Nat) (turn : Int32) (h : AH) : Option (Nat × AH) := f_X11_readExpression_l20 S_1 F 80 x1 turn h
theorem lx_bad {x1 turn : Int32} {F : Nat} {h : AH} (e : h.2.1 80 19 = 1) : Lx x1 (F + 1) turn h = some (80, h) := by
  unfold Lx
  rw [f_X11_readExpression_l20]
  unfold f_X11_readExpression_l20b
  rw [bs_ (gi80 h 19), e, if_neg (by decide)]
theorem lx_0 {x1 : Int32} {F : Nat} {h : AH} (e : h.2.1 80 19 = 0) : Lx x1 (F + 1) 0 h = (f_X11_readPlain S_1 80 h).bind fun z => Lx x1 F z.1 z.2 := by
  unfold Lx
  rw [f_X11_readExpression_l20]
  unfold f_X11_readExpression_l20b
  rw [bs_ (gi80 h 19), e, if_pos rfl, if_neg (by decide), if_pos rfl, bs_ (ck_80 h)]
theorem lx_1 {x1 : Int32} {F : Nat} {h : AH} (e : h.2.1 80 19 = 0) : Lx x1 (F + 1) 1 h = (f_X11_readPart S_1 80 h).bind fun z => Lx x1 F z.1 z.2 := by
  unfold Lx
  rw [f_X11_readExpression_l20]
  unfold f_X11_readExpression_l20b
  rw [bs_ (gi80 h 19), e, if_pos rfl, if_neg (by decide), if_neg (by decide), if_pos rfl, bs_ (ck_80 h)]
theorem lx_3 {x1 : Int32} {F : Nat} {h : AH} (e : h.2.1 80 19 = 0) : Lx x1 (F + 1) 3 h = (f_X11_behindSum S_1 80 x1 h).bind fun z => Lx x1 F z.1 z.2 := by
  unfold Lx
  rw [f_X11_readExpression_l20]
  unfold f_X11_readExpression_l20b
  rw [bs_ (gi80 h 19), e, if_pos rfl, if_neg (by decide), if_neg (by decide), if_neg (by decide), if_pos rfl, bs_ (ck_80 h)]
theorem lx_2 {x1 : Int32} {F : Nat} {h : AH} (e : h.2.1 80 19 = 0) : Lx x1 (F + 1) 2 h = (f_X11_behindTest S_1 80 h).bind fun z => Lx x1 F z.1 z.2 := by
  unfold Lx
  rw [f_X11_readExpression_l20]
  unfold f_X11_readExpression_l20b
  rw [bs_ (gi80 h 19), e, if_pos rfl, if_neg (by decide), if_neg (by decide), if_neg (by decide), if_neg (by decide), bs_ (ck_80 h)]
theorem lx_4 {x1 : Int32} {F : Nat} {h : AH} (e : h.2.1 80 19 = 0) : Lx x1 (F + 1) 4 h = some (80, h) := by
  unfold Lx
  rw [f_X11_readExpression_l20]
  unfold f_X11_readExpression_l20b
  rw [bs_ (gi80 h 19), e, if_pos rfl, if_pos rfl]
theorem m_open {h : AH} {b : Nat → Nat} {t n i lv c o : Nat} {ord : Bool} {P : List (Nat × Nat)} (k : MS h b t n ord i lv c o P) (hi : tkK b t i ≠ 285) {op : Nat} (hop : op = 31 ∨ op = 32) : (o < 8 ∧ ∃ h', f_X11_openBracket S_1 80 (nI op) h = some ((), h') ∧ Eqv PE h h' ∧ MS h' b t n ord (i + 1) lv c (o + 1) ((op, 0) :: P) ∧ Cod h h' c) ∨ (o = 8 ∧ ∃ h', f_X11_openBracket S_1 80 (nI op) h = some ((), h') ∧ Eqv PE h h' ∧ Bad h' b t i) := by
  have o8 := k.2.2.2.2.2.2.2.2.2.1
  have v30 := k.2.2.2.2.2.2.1
  by_cases c8 : o < 8
  · obtain ⟨h1, r1, e1, m1⟩ := m_must1 k hi
    have n4 := m1.n4
    obtain ⟨⟨q1, q2, q3⟩, a4, a5, ⟨a6, a7⟩, a8, ⟨a9, b1⟩, b2, b3, b4, b5⟩ := m1
    have lp : P.length < 400 := by
      have := k.2.2.2.2.2.2.2.2.1
      omega
    obtain ⟨h2, hh2⟩ : ∃ h2, h2 = stI h1 80 30 (nI (o + 1)) := ⟨_, rfl⟩
    have v29 : h2.2.1 80 29 = nI P.length := by rw [hh2, ri_k (by decide)]; exact a9
    obtain ⟨h3, hh3⟩ : ∃ h3, h3 = stI (stI (stI h2 93 P.length (nI op)) 94 P.length (nI 0)) 80 29 (nI (P.length + 1)) := ⟨_, rfl⟩
    have e3 : Eqv PE h1 h3 := by
      rw [hh3, hh2]
      exact ((((Eqv.refl h1).si (PE_o (by omega))).si (PE_o (by omega))).si (PE_o (by omega))).si (PE_o (by omega))
    have o3 : ∀ p j, p ≠ 93 → p ≠ 94 → ¬ (p = 80 ∧ (j = 29 ∨ j = 30)) → h3.2.1 p j = h1.2.1 p j := fun p j x1 x2 x3 => by
      rw [hh3, hh2]
      by_cases z : p = 80
      · subst z
        rw [ri_k (by omega), ri_p (by omega), ri_p (by omega), ri_k (by omega)]
      · rw [ri_p z, ri_p x2, ri_p x1, ri_p z]
    refine Or.inl ⟨c8, h3, ?_, (e1.mono PN_E).trans e3, ⟨⟨?_, q2, q3⟩, ?_, ?_, ⟨?_, a7⟩, ?_, ⟨?_, ?_⟩, ?_, ?_, ?_, by omega, ?_⟩, ?_⟩
    · unfold f_X11_openBracket
      rw [bs_ (gi80 h 30), v30, if_neg (by rw [show (8 : Int32) = nI 8 from rfl, nn_le (by decide) (by omega)]; omega)]
      unfold f_X11_openBracket_j15
      rw [bs_ (ck_80 h), bs_ r1]
      dsimp only
      rw [bs_ (gi80 h1 19), a4, if_pos rfl, bs_ (gi80 h1 30), b2, nI_1, bs_ (pi80 h1 30 _), ← hh2, bs_ (ck_80 h2), bs_ (m_push v29 lp _ (0 : Int32)), hh3]
      rfl
    · obtain ⟨⟨t1, t2, t3⟩, v14, v15, v16, v17⟩ := q1
      have q : ∀ j, 13 ≤ j → j ≤ 17 → h3.2.1 80 j = h1.2.1 80 j := fun j x1 x2 => o3 80 j (by decide) (by decide) (by omega)
      exact ⟨⟨(q 13 (by omega) (by omega)).trans t1, t2, fun j hj => ⟨(o3 89 j (by decide) (by decide) (by omega)).trans (t3 j hj).1, (t3 j hj).2⟩⟩, (q 14 (by omega) (by omega)).trans v14, (q 15 (by omega) (by omega)).trans v15, (q 16 (by omega) (by omega)).trans v16, by rw [hh3, hh2]; exact v17⟩
    · exact (o3 80 19 (by decide) (by decide) (by omega)).trans a4
    · exact (o3 80 20 (by decide) (by decide) (by omega)).trans a5
    · exact (o3 80 26 (by decide) (by decide) (by omega)).trans a6
    · exact (o3 80 23 (by decide) (by decide) (by omega)).trans a8
    · rw [hh3, stI_s]; rfl
    · exact (b1.cong fun p j hp _ => by rw [hh2]; exact ri_p (by omega) : Pl h2 P).push (by omega) (by decide) hh3
    · rw [hh3, ri_k (by decide), ri_p (by decide), ri_p (by decide), hh2, stI_s]
    · rw [wtP, if_neg (by show ¬ op < 29; omega)]
      have := k.2.2.2.2.2.2.2.1
      omega
    · rw [List.length_cons]
      have := k.2.2.2.2.2.2.2.2.1
      omega
    · exact fun p hp => by rw [hh3, hh2]; exact b5.2 p hp
    · exact (Cod.n e1).trans (fun j _ => ⟨o3 91 j (by decide) (by decide) (by omega), o3 92 j (by decide) (by decide) (by omega)⟩) (Nat.le_refl c)
  · obtain ⟨h1, r1, e1, m1⟩ := m_must0 k
    refine Or.inr ⟨by omega, h1, ?_, e1, m1⟩
    unfold f_X11_openBracket
    rw [bs_ (gi80 h 30), v30, if_pos (by rw [show (8 : Int32) = nI 8 from rfl, nn_le (by decide) (by omega)]; omega)]
    unfold f_X11_openBracket_j15
    rw [bs_ (ck_80 h), bs_ r1]
    dsimp only
    rw [bs_ (gi80 h1 19), m1.1, if_neg (by decide)]
/-- one operation that waits is settled -/
theorem m_setX {h : AH} {b : Nat → Nat} {t n i lv c o op : Nat} {ord : Bool} {Q : List (Nat × Nat)} (k : MS h b t n ord i lv c o ((op, 0) :: Q)) (ho : op < 29) (hop : 20 ≤ op) : ∃ h', (∀ F l, l < 100 → l ≤ bnO op → f_X11_settle_l0 S_1 (F + 1) 80 (nI l) h = f_X11_settle_l0 S_1 F 80 (nI l) h') ∧ Eqv PSe h h' ∧ MS h' b t n ord i lv (c + 1) o Q ∧ Cod h h' c ∧ h'.2.1 91 c = nI op ∧ h'.2.1 92 c = 0 := by
  have n4 := k.n4
  obtain ⟨⟨q1, q2, q3⟩, a4, a5, ⟨a6, a7⟩, a8, ⟨a9, b1⟩, b2, b3, b4, b5⟩ := k
  rw [List.length_cons] at a9 b4
  rw [wtP, if_pos (show (op, 0).1 < 29 from ho)] at b3
  obtain ⟨h', hh'⟩ : ∃ h', h' = stI (stI (stI (stI h 80 29 (nI Q.length)) 91 c (nI op)) 92 c 0) 80 23 (nI (c + 1)) := ⟨_, rfl⟩
  have e' : Eqv PSe h h' := by
    rw [hh']
    exact ((((Eqv.refl h).si (PSe_o (by omega))).si (PSe_o (by omega))).si (PSe_o (by omega))).si (PSe_o (by omega))
  have oo : ∀ p j, PSe p j = false → h'.2.1 p j = h.2.1 p j := fun p j z => e'.i p j z
  refine ⟨h', fun F l hl hb => ?_, e', ⟨⟨q1.n e' (fun j x1 x2 => decide_eq_false (by omega)) (fun j => decide_eq_false (by omega)), q2, q3⟩, (oo _ _ rfl).trans a4, (oo _ _ rfl).trans a5, ⟨(oo _ _ rfl).trans a6, a7⟩, ?_, ⟨?_, b1.2.2.2.2.cong fun p j hp _ => oo p j (decide_eq_false (by omega))⟩, (oo _ _ rfl).trans b2, by omega, by omega, b5.1, b5.2.e e' fun p j hp => decide_eq_false (by omega)⟩, fun j hj => ⟨?_, ?_⟩, ?_, ?_⟩
  · obtain ⟨h2, r, e2⟩ := set_op (F := F) (l := l) a9 b1 (by omega) hl hb ho a8 (by omega)
    rw [r, e2, hh']
  · rw [hh', stI_s]
  · rw [hh', ri_k (by decide), ri_p (by decide), ri_p (by decide), stI_s]
  · rw [hh', ri_p (by decide), ri_p (by decide), ri_k (by omega), ri_p (by decide)]
  · rw [hh', ri_p (by decide), ri_k (by omega), ri_p (by decide), ri_p (by decide)]
  · rw [hh', ri_p (by decide), ri_p (by decide), stI_s]
  · rw [hh', ri_p (by decide), stI_s]
def eL (p : Option (Nat × DD)) : List (Nat × Nat) := match p with
  | none => []
  | some (op, _) => [(op, 0)]
def P1M (ord : Bool) (c a : Nat → Int32) (lo hi : Nat) (p : Option (Nat × DD)) (c0 m L : Nat) : Prop := match p with
  | none => m = c0 ∧ L = 0
  | some (op, d) => lo ≤ op ∧ op < hi ∧ ∃ N, SumM ord c a N c0 m d L
theorem P1M.cong {ord : Bool} {c a c' a' : Nat → Int32} {lo hi c0 m L : Nat} {p : Option (Nat × DD)} (k : P1M ord c a lo hi p c0 m L) (e : ∀ j, j < m → c' j = c j ∧ a' j = a j) : P1M ord c' a' lo hi p c0 m L := by
  rcases p with _ | ⟨op, d⟩
  · exact k
  · obtain ⟨k1, k2, N, k3⟩ := k
    exact ⟨k1, k2, N, k3.cong e⟩
theorem P1M.le {ord : Bool} {c a : Nat → Int32} {lo hi c0 m L : Nat} {p : Option (Nat × DD)} (k : P1M ord c a lo hi p c0 m L) : c0 ≤ m := by
  rcases p with _ | ⟨op, d⟩
  · have := k.1
    omega
  · obtain ⟨k1, k2, N, k3⟩ := k
    have := k3.lt
    omega
/-- what waits, if it does, joins what stands behind -/
theorem m_setP {h : AH} {b : Nat → Nat} {t n i lv c o lo hi c0 m L L2 N : Nat} {ord : Bool} {Q : List (Nat × Nat)} {p : Option (Nat × DD)} {d : DD} (k : MS h b t n ord i lv c o (eL p ++ Q)) (hlo : 20 ≤ lo) (hhi : hi ≤ 25) (k1 : P1M ord (h.2.1 91) (h.2.1 92) lo hi p c0 m L) (k2 : SumM ord (h.2.1 91) (h.2.1 92) N m c d L2) : ∃ h' c', (∀ F l, 1 ≤ F → l < 100 → (∀ op, lo ≤ op → op < hi → l ≤ bnO op) → ∃ F', F ≤ F' + 1 ∧ f_X11_settle_l0 S_1 F 80 (nI l) h = f_X11_settle_l0 S_1 F' 80 (nI l) h') ∧ Eqv PSe h h' ∧ MS h' b t n ord i lv c' o Q ∧ Cod h h' c ∧ c ≤ c' ∧ c' + wtP Q = c + wtP (eL p ++ Q) ∧ ∃ N, SumM ord (h'.2.1 91) (h'.2.1 92) N c0 c' (joinD p d) (L + L2) := by
  rcases p with _ | ⟨op, dp⟩
  · obtain ⟨rfl, rfl⟩ := k1
    refine ⟨h, c, fun F l _ _ _ => ⟨F, by omega, rfl⟩, Eqv.refl h, k, Cod.refl h c, Nat.le_refl c, rfl, N, ?_⟩
    rwa [Nat.zero_add]
  · obtain ⟨x1, x2, N1, s1⟩ := k1
    obtain ⟨h', r, e, m', cd, v1, v2⟩ := m_setX (h := h) (Q := Q) k (by omega) (by omega)
    refine ⟨h', c + 1, fun F l hF hl hb => ?_, e, m', cd, by omega, ?_, s1.opM k2 (fun j hj => cd j hj) ⟨by omega, by omega⟩ v1⟩
    · obtain ⟨F, rfl⟩ : ∃ x, F = x + 1 := ⟨F - 1, by omega⟩
      exact ⟨F, by omega, r F l hl (hb op x1 x2)⟩
    · show c + 1 + wtP Q = c + (wtP Q + (if (op, 0).1 < 29 then 1 else 0))
      rw [if_pos (show (op, 0).1 < 29 by show op < 29; omega)]
      omega
def hdL (l : Nat) (Q : List (Nat × Nat)) : Prop := match Q with
  | [] => True
  | x :: _ => bnO x.1 < l
theorem m_stop {h : AH} {Q : List (Nat × Nat)} (e : h.2.1 80 29 = nI Q.length) (k : Pl h Q) (hQ : Q.length ≤ 400) {l : Nat} (hl : l < 100) (hd : hdL l Q) (F : Nat) : f_X11_settle_l0 S_1 (F + 1) 80 (nI l) h = some ((), h) := by
  rcases Q with _ | ⟨x, Q⟩
  · exact set_0 e
  · rw [List.length_cons] at e hQ
    exact set_no e k (by omega) hl hd
theorem bn_mul : ∀ op, op < 25 → 22 ≤ op → bnO op = 6 := by decide
theorem bn_add : ∀ op, op < 22 → 20 ≤ op → bnO op = 5 := by decide
/-- a sum that waits: the product, the sum, what stands behind -/
def PdM (h : AH) (ord : Bool) (p q : Option (Nat × DD)) (c0 c : Nat) (d : DD) (L : Nat) : Prop := ∃ m1 m2 L1 L2 L3 N, L = L1 + L2 + L3 ∧ P1M ord (h.2.1 91) (h.2.1 92) 20 22 p c0 m1 L1 ∧ P1M ord (h.2.1 91) (h.2.1 92) 22 25 q m1 m2 L2 ∧ SumM ord (h.2.1 91) (h.2.1 92) N m2 c d L3
theorem PdM.n {h h' : AH} {ord : Bool} {p q : Option (Nat × DD)} {c0 c L : Nat} {d : DD} (k : PdM h ord p q c0 c d L) (e : Eqv PN h h') : PdM h' ord p q c0 c d L := by
  obtain ⟨m1, m2, L1, L2, L3, N, k1, k2, k3, k4⟩ := k
  have r1 : h'.2.1 91 = h.2.1 91 := funext fun j => e.i 91 j (decide_eq_false (by omega))
  have r2 : h'.2.1 92 = h.2.1 92 := funext fun j => e.i 92 j (decide_eq_false (by omega))
  exact ⟨m1, m2, L1, L2, L3, N, k1, by rw [r1, r2]; exact k2, by rw [r1, r2]; exact k3, by rw [r1, r2]; exact k4⟩
theorem PdM.lt {h : AH} {ord : Bool} {p q : Option (Nat × DD)} {c0 c L : Nat} {d : DD} (k : PdM h ord p q c0 c d L) : c0 < c := by
  obtain ⟨m1, m2, L1, L2, L3, N, k1, k2, k3, k4⟩ := k
  have := k2.le
  have := k3.le
  have := k4.lt
  omega
/-- the product is settled -/
theorem m_set6 {h : AH} {b : Nat → Nat} {t n i lv c o c0 L : Nat} {ord : Bool} {P : List (Nat × Nat)} {p q : Option (Nat × DD)} {d : DD} (k : MS h b t n ord i lv c o (eL q ++ (eL p ++ P))) (pd : PdM h ord p q c0 c d L) (hP : hdL 5 P) : ∃ h' c', f_X11_settle S_1 80 (nI 6) h = some ((), h') ∧ Eqv PSe h h' ∧ MS h' b t n ord i lv c' o (eL p ++ P) ∧ Cod h h' c0 ∧ c' + wtP (eL p ++ P) = c + wtP (eL q ++ (eL p ++ P)) ∧ ∃ m1 L1 L2 N, L = L1 + L2 ∧ P1M ord (h'.2.1 91) (h'.2.1 92) 20 22 p c0 m1 L1 ∧ SumM ord (h'.2.1 91) (h'.2.1 92) N m1 c' (joinD q d) L2 := by
  obtain ⟨m1, m2, L1, L2, L3, N, k1, k2, k3, k4⟩ := pd
  have l2 := k2.le
  have l3 := k3.le
  have l4 := k4.lt
  obtain ⟨h', c', r, e, m', cd, le, w, N', s⟩ := m_setP k (by decide) (by decide) k3 k4
  refine ⟨h', c', ?_, e, m', fun j hj => cd j (by omega), w, m1, L1, L2 + L3, N', by omega, k2.cong fun j hj => cd j (by omega), s⟩
  obtain ⟨F', f1, f2⟩ := r (FU + 1) 6 (by omega) (by decide) fun op a1 a2 => by rw [bn_mul op a2 a1]; exact Nat.le_refl 6
  obtain ⟨F2, rfl⟩ : ∃ x, F' = x + 1 := ⟨F' - 1, by unfold FU at f1; omega⟩
  have n4 := m'.n4
  have b4 := m'.2.2.2.2.2.2.2.2.1
  rw [settle_eq, f2, m_stop m'.2.2.2.2.2.1.1 m'.2.2.2.2.2.1.2 (by omega) (by decide) ?_]
  rcases p with _ | ⟨op, dp⟩
  · revert hP
    show hdL 5 P → hdL 6 P
    rcases P with _ | ⟨x, P⟩
    · exact fun _ => trivial
    · intro z
      have z : bnO x.1 < 5 := z
      show bnO x.1 < 6
      omega
  · obtain ⟨z1, z2, _⟩ := k2
    show bnO op < 6
    rw [bn_add op z2 z1]
    omega
/-- the sum is settled, as far as it waits; what stands below is next -/
theorem m_set5 {h : AH} {b : Nat → Nat} {t n i lv c o c0 L : Nat} {ord : Bool} {P : List (Nat × Nat)} {p q : Option (Nat × DD)} {d : DD} (k : MS h b t n ord i lv c o (eL q ++ (eL p ++ P))) (pd : PdM h ord p q c0 c d L) : ∃ h' c', (∀ F l, 3 ≤ F → l ≤ 5 → ∃ F', F ≤ F' + 2 ∧ f_X11_settle_l0 S_1 F 80 (nI l) h = f_X11_settle_l0 S_1 F' 80 (nI l) h') ∧ Eqv PSe h h' ∧ MS h' b t n ord i lv c' o P ∧ Cod h h' c0 ∧ c' + wtP P = c + wtP (eL q ++ (eL p ++ P)) ∧ ∃ N, SumM ord (h'.2.1 91) (h'.2.1 92) N c0 c' (joinD p (joinD q d)) L := by
  obtain ⟨m1, m2, L1, L2, L3, N, k1, k2, k3, k4⟩ := pd
  have l2 := k2.le
  have l3 := k3.le
  have l4 := k4.lt
  obtain ⟨h1, c1, r1, e1, m', cd1, le1, w1, N1, s1⟩ := m_setP k (by decide) (by decide) k3 k4
  obtain ⟨h2, c2, r2, e2, m2', cd2, le2, w2, N2, s2⟩ := m_setP m' (by decide) (by decide) (k2.cong fun j hj => cd1 j (by omega)) s1
  refine ⟨h2, c2, fun F l hF hl => ?_, e1.trans e2, m2', fun j hj => ⟨(cd2 j (by omega)).1.trans (cd1 j (by omega)).1, (cd2 j (by omega)).2.trans (cd1 j (by omega)).2⟩, by omega, N2, by rwa [k1, Nat.add_assoc]⟩
  obtain ⟨F1, f1, g1⟩ := r1 F l (by omega) (by omega) fun op a1 a2 => by rw [bn_mul op a2 a1]; omega
  obtain ⟨F2, f2, g2⟩ := r2 F1 l (by omega) (by omega) fun op a1 a2 => by rw [bn_add op a2 a1]; omega
  exact ⟨F2, by omega, g1.trans g2⟩
theorem m_set5' {h : AH} {b : Nat → Nat} {t n i lv c o c0 L : Nat} {ord : Bool} {P : List (Nat × Nat)} {p q : Option (Nat × DD)} {d : DD} (k : MS h b t n ord i lv c o (eL q ++ (eL p ++ P))) (pd : PdM h ord p q c0 c d L) (hP : hdL 5 P) : ∃ h' c', f_X11_settle S_1 80 (nI 5) h = some ((), h') ∧ Eqv PSe h h' ∧ MS h' b t n ord i lv c' o P ∧ Cod h h' c0 ∧ c' + wtP P = c + wtP (eL q ++ (eL p ++ P)) ∧ ∃ N, SumM ord (h'.2.1 91) (h'.2.1 92) N c0 c' (joinD p (joinD q d)) L := by
  obtain ⟨h', c', r, e, m', x⟩ := m_set5 k pd
  refine ⟨h', c', ?_, e, m', x⟩
  obtain ⟨F', f1, f2⟩ := r (FU + 1) 5 (by unfold FU; omega) (Nat.le_refl 5)
  obtain ⟨F2, rfl⟩ : ∃ x, F' = x + 1 := ⟨F' - 1, by unfold FU at f1; omega⟩
  have n4 := m'.n4
  have b4 := m'.2.2.2.2.2.2.2.2.1
  rw [settle_eq, f2, m_stop m'.2.2.2.2.2.1.1 m'.2.2.2.2.2.1.2 (by omega) (by decide) hP]
/-- laid on the pile, and on -/
theorem m_pushNext {h : AH} {b : Nat → Nat} {t n i lv c o op : Nat} {ord : Bool} {Q : List (Nat × Nat)} (k : MS h b t n ord i lv c o Q) (hi : tkK b t i ≠ 285) (hop : op < 31) : ∃ h1 h', f_X11_push S_1 80 (nI op) (0 : Int32) h = some ((), h1) ∧ f_X11_next S_1 80 h1 = some ((), h') ∧ Eqv PE h h' ∧ MS h' b t n ord (i + 1) lv c o ((op, 0) :: Q) ∧ (∀ j, h'.2.1 91 j = h.2.1 91 j ∧ h'.2.1 92 j = h.2.1 92 j) := by
  have hl := k.1.2.1.lt k.1.2.2 hi
  have n4 := k.1.2.1.1
  obtain ⟨⟨q1, q2, q3⟩, a4, a5, ⟨a6, a7⟩, a8, ⟨a9, b1⟩, b2, b3, b4, b5⟩ := k
  obtain ⟨h1, hh1⟩ : ∃ h1, h1 = stI (stI (stI h 93 Q.length (nI op)) 94 Q.length (nI 0)) 80 29 (nI (Q.length + 1)) := ⟨_, rfl⟩
  have e1 : Eqv PE h h1 := by
    rw [hh1]
    exact (((Eqv.refl h).si (PE_o (by omega))).si (PE_o (by omega))).si (PE_o (by omega))
  have o1 : ∀ p j, p ≠ 93 → p ≠ 94 → ¬ (p = 80 ∧ j = 29) → h1.2.1 p j = h.2.1 p j := fun p j x1 x2 x3 => by
    rw [hh1]
    by_cases z : p = 80
    · subst z
      rw [ri_k (by omega), ri_p (by omega), ri_p (by omega)]
    · rw [ri_p z, ri_p x2, ri_p x1]
  have cur1 : Cur h1 b t i := by
    obtain ⟨⟨t1, t2, t3⟩, v14, v15, v16, v17⟩ := q1
    have q : ∀ j, 13 ≤ j → j ≤ 17 → h1.2.1 80 j = h.2.1 80 j := fun j x1 x2 => o1 80 j (by decide) (by decide) (by omega)
    exact ⟨⟨(q 13 (by omega) (by omega)).trans t1, t2, fun j hj => ⟨(o1 89 j (by decide) (by decide) (by omega)).trans (t3 j hj).1, (t3 j hj).2⟩⟩, (q 14 (by omega) (by omega)).trans v14, (q 15 (by omega) (by omega)).trans v15, (q 16 (by omega) (by omega)).trans v16, by rw [hh1]; exact v17⟩
  obtain ⟨h', r, e, cur'⟩ := cur1.next hi
  have oo : ∀ p j, p ≠ 93 → p ≠ 94 → ¬ (p = 80 ∧ (j = 29 ∨ 14 ≤ j ∧ j ≤ 17)) → h'.2.1 p j = h.2.1 p j := fun p j x1 x2 x3 => (e.i p j (decide_eq_false (by omega))).trans (o1 p j x1 x2 (by omega))
  refine ⟨h1, h', ?_, r, e1.trans (e.mono PN_E), ⟨⟨cur', q2, hl⟩, (oo 80 19 (by decide) (by decide) (by omega)).trans a4, (oo 80 20 (by decide) (by decide) (by omega)).trans a5, ⟨(oo 80 26 (by decide) (by decide) (by omega)).trans a6, a7⟩, (oo 80 23 (by decide) (by decide) (by omega)).trans a8, ⟨?_, ?_⟩, (oo 80 30 (by decide) (by decide) (by omega)).trans b2, ?_, ?_, b5.1, ?_⟩, fun j => ⟨oo 91 j (by decide) (by decide) (by omega), oo 92 j (by decide) (by decide) (by omega)⟩⟩
  · rw [hh1]
    exact m_push a9 (by omega) _ (0 : Int32)
  · rw [e.i 80 29 rfl, hh1, stI_s]; rfl
  · exact (b1.push (by omega) (by decide) hh1).cong fun p j hp _ => e.i p j (decide_eq_false (by omega))
  · rw [wtP]
    split <;> omega
  · rw [List.length_cons]; omega
  · exact b5.2.e (e1.trans (e.mono PN_E)) fun p j hp => decide_eq_false (by omega)
