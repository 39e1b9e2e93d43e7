/-! reading: the class's clauses -/
def PCh (p j : Nat) : Bool := decide (p = 45 ∧ (j = 3 ∨ j = 4) ∨ p = 50 ∧ (j = 2 ∨ j = 3) ∨ p = 51 ∨ p = 52)
theorem PCh_o {p j : Nat} (h : p = 45 ∧ (j = 3 ∨ j = 4) ∨ p = 50 ∧ (j = 2 ∨ j = 3) ∨ p = 51 ∨ p = 52) : PCh p j = true := decide_eq_true h
theorem PCr_h (p j : Nat) (h : PCr p j = true) : PCh p j = true := by
  have h := of_decide_eq_true h
  exact PCh_o (by omega)
theorem CS.h {h h' : AH} {K U : Nat → Nat} {n i lv c i' lv' c' : Nat} {ord : Bool} (k : CS h K U n ord i lv c) (e : Eqv PCh h h') (e1 : h'.2.1 45 3 = nI i') (h1 : i' ≤ n) (e2 : h'.2.1 45 4 = nI lv') (h2 : lv' ≤ 50) (e3 : h'.2.1 50 2 = nI c') (h3 : c' ≤ i') : CS h' K U n ord i' lv' c' := by
  obtain ⟨⟨t1, t2, t3⟩, a2, a3, _⟩ := k
  refine ⟨⟨(e.i 46 3 rfl).trans t1, t2, fun i hi => ?_⟩, a2, (e.i 45 2 rfl).trans a3, e1, h1, e2, h2, e3, h3⟩
  obtain ⟨c1, c2, c3⟩ := t3 i hi
  exact ⟨(e.i 47 i (decide_eq_false (by omega))).trans c1, (e.i 49 i (decide_eq_false (by omega))).trans c2, c3⟩
theorem q_setHead {h : AH} {m x : Nat} (e : h.2.1 50 3 = nI m) (hm : m < 12) (hx : x < 6) (v : Int32) : f_X3_setHead S_1 45 (nI x) v h = some ((), stI h 52 (6 * m + x) v) := by
  have e6 : nI m * (6 : Int32) + nI x = nI (6 * m + x) := by
    rw [show (6 : Int32) = nI 6 from rfl, pk_mul, nI_add, Nat.mul_comm]
  unfold f_X3_setHead
  rw [bs_ (yr_45_1' h), bs_ (yr_45_1' h), bs_ (gi50 h 3), e, bs_ (show ckO S_1 h 50 8 = some () from rfl)]
  unfold f_X8_setHead
  rw [e6, lt_e, if_neg (by rw [z_lt (by omega)]; exact id), bs_ (yr_50_1' h), bs_ (show lnA S_1 h 52 = some (nI 72) from rfl), if_neg (by rw [nn_le (by omega) (by omega)]; omega), bs_ (yr_50_1' h), bs_ (si_52 h _ (by omega))]
  rfl
def OpX (cd : Nat → Int32) (s : Option DD) (i j : Nat) : Prop := match s with
  | none => i = j
  | some d => ∃ N L, L ≤ 50 ∧ SumX cd N i j d L
theorem OpX.cong {cd cd' : Nat → Int32} {s : Option DD} {i j : Nat} (k : OpX cd s i j) (e : ∀ t, t < j → cd' t = cd t) : OpX cd' s i j := by
  rcases s with _ | d
  · exact k
  · obtain ⟨N, L, k1, k2⟩ := k
    exact ⟨N, L, k1, k2.cong fun t _ ht => e t ht⟩
theorem OpX.le {cd : Nat → Int32} {s : Option DD} {i j : Nat} (k : OpX cd s i j) : i ≤ j := by
  rcases s with _ | d
  · exact Nat.le_of_eq k
  · obtain ⟨N, L, k1, k2⟩ := k
    have := k2.lt
    omega
/-- a clause's head, but for its if -/
def HdA (h : AH) (m x : Nat) (s1 s2 : Option DD) (tm c0 c : Nat) : Prop := h.2.1 52 (6 * m) = nI x ∧ h.2.1 52 (6 * m + 1) = nI tm ∧ h.2.1 52 (6 * m + 2) = nI c0 ∧ ∃ m1, h.2.1 52 (6 * m + 3) = nI m1 ∧ h.2.1 52 (6 * m + 4) = nI c ∧ OpX (h.2.1 51) s1 c0 m1 ∧ OpX (h.2.1 51) s2 m1 c
def RA (h : AH) (K U : Nat → Nat) (n : Nat) (ord : Bool) (m x c : Nat) (r : Nat ⊕ (Nat × Nat × Option DD × Option DD × Nat)) (res : Option (Int32 × AH)) : Prop := match r with
  | .inl j => ∃ h', res = some (0, h') ∧ Eqv PCh h h' ∧ h'.2.1 45 3 = nI j
  | .inr (i', lv', s1, s2, tm) => ∃ h' c', res = some (1, h') ∧ Eqv PCh h h' ∧ CS h' K U n ord i' lv' c' ∧ h'.2.1 50 3 = nI m ∧ (∀ j, j < c → h'.2.1 51 j = h.2.1 51 j) ∧ (∀ j, j < 6 * m → h'.2.1 52 j = h.2.1 52 j) ∧ HdA h' m x s1 s2 tm c c'
theorem RA.z {h : AH} {K U : Nat → Nat} {n m x c : Nat} {ord : Bool} {r : Nat ⊕ (Nat × Nat × Option DD × Option DD × Nat)} {X : Option (Int32 × AH)} (k : RA h K U n ord m x c r X) : RA h K U n ord m x c r (X.bind fun z => match z with | (a, b) => (isZ a).bind fun _ => some (a, b)) := by
  rcases r with j | ⟨i', lv', s1, s2, tm⟩
  · obtain ⟨h', r, e⟩ := k
    rw [bs_ r]
    exact ⟨h', rfl, e⟩
  · obtain ⟨h', c', r, e⟩ := k
    rw [bs_ r]
    exact ⟨h', c', rfl, e⟩
theorem q_sumC {h : AH} {K U : Nat → Nat} {n i lv c : Nat} {ord : Bool} (cs : CS h K U n ord i lv c) : match sumS K U ord 8 i lv with
  | .inl j => ∃ h', f_P S_1 80 3 45 0 h = some (0, h') ∧ Eqv PCr h h' ∧ h'.2.1 45 3 = nI j
  | .inr (i', lv', d) => ∃ h' c', f_P S_1 80 3 45 0 h = some (1, h') ∧ Eqv PCr h h' ∧ CS h' K U n ord i' lv' c' ∧ (∀ j, j < c → h'.2.1 51 j = h.2.1 51 j) ∧ OpX (h'.2.1 51) (some d) c c' := by
  have q := q_sum 8 80 0 h i lv c rfl (by decide) cs
  have g := sum_go (U := U) (ord := ord) cs.2.1 8 i lv cs.2.2.2.2.1
  have hc := cs.2.2.2.2.2.2.2.2
  revert q g
  rcases sumS K U ord 8 i lv with j | ⟨i', lv', d⟩
  · rintro ⟨h', r, e, v⟩ -
    exact ⟨h', r, e, v⟩
  · rintro ⟨h', c', r, e, v3, v4, v5, v6, v7, N, s⟩ ⟨g1, g2, g3, g4⟩
    exact ⟨h', c', r, e, cs.to e v3 g2 v4 g4 v5 (by omega), v7, N, lv' - lv, by omega, s⟩
theorem CS.n4 {h : AH} {K U : Nat → Nat} {n i lv c : Nat} {ord : Bool} (cs : CS h K U n ord i lv c) : c ≤ i ∧ i ≤ n ∧ n ≤ 400 ∧ K i ≤ 285 ∧ U i ≤ 1001 := ⟨cs.2.2.2.2.2.2.2.2, cs.2.2.2.2.1, cs.1.2.1, (cs.1.2.2 i cs.2.2.2.2.1).2.2⟩
/-- on -/
theorem CS.nx {h : AH} {K U : Nat → Nat} {n i lv c : Nat} {ord : Bool} (cs : CS h K U n ord i lv c) (hi : K i ≠ 285) : f_X3_next S_1 45 h = some ((), stI h 45 3 (nI (i + 1))) ∧ CS (stI h 45 3 (nI (i + 1))) K U n ord (i + 1) lv c ∧ Eqv PCr h (stI h 45 3 (nI (i + 1))) := by
  have hl := cs.2.1.lt cs.2.2.2.2.1 hi
  have e : Eqv PCr h (stI h 45 3 (nI (i + 1))) := (Eqv.refl h).si (PCr_o (by omega))
  refine ⟨q_next3 cs.2.2.2.1, cs.to e (stI_s _ _ _ _) (by omega) ((ri_k (by decide)).trans cs.2.2.2.2.2.1) cs.2.2.2.2.2.2.1 ((ri_p (by decide)).trans cs.2.2.2.2.2.2.2.1) ?_, e⟩
  have := cs.2.2.2.2.2.2.2.2
  omega
theorem CS.hd {h : AH} {K U : Nat → Nat} {n i lv c : Nat} {ord : Bool} (cs : CS h K U n ord i lv c) (j : Nat) (v : Int32) : CS (stI h 52 j v) K U n ord i lv c :=
  cs.h ((Eqv.refl h).si (PCh_o (by omega))) ((ri_p (by decide)).trans cs.2.2.2.1) cs.2.2.2.2.1 ((ri_p (by decide)).trans cs.2.2.2.2.2.1) cs.2.2.2.2.2.2.1 ((ri_p (by decide)).trans cs.2.2.2.2.2.2.2.1) cs.2.2.2.2.2.2.2.2
/-- what of a head is there before its sums -/
def Hd0 (h : AH) (m x c : Nat) : Prop := h.2.1 52 (6 * m) = nI x ∧ h.2.1 52 (6 * m + 1) = nI 1 ∧ h.2.1 52 (6 * m + 2) = nI c
theorem q_lawA {h : AH} {K U : Nat → Nat} {n i lv c m : Nat} (cs : CS h K U n false i lv c) (hm : m < 12) (e3 : h.2.1 50 3 = nI m) (hd : Hd0 h m (K i) c) : RA h K U n false m (K i) c (lawA K U i lv) (f_X3_lawClause S_1 45 h) := by
  obtain ⟨n1, n2, n3, n4, n5⟩ := cs.n4
  obtain ⟨d1, d2, d3⟩ := hd
  -- both heads put down
  have fin : ∀ (g : AH) (i' lv' c' : Nat) (s : Option DD), Eqv PCr h g → CS g K U n false i' lv' c' → (∀ j, j < c → g.2.1 51 j = h.2.1 51 j) → OpX (g.2.1 51) s c c' → RA h K U n false m (K i) c (.inr (i', lv', s, none, 1)) ((gR S_1 g 45 3 1).bind fun p_10 =>
        (gI S_1 g p_10 8 2).bind fun v_12 =>
        (ckO S_1 g 45 3).bind fun _ =>
        (f_X3_setHead S_1 45 (3 : Int32) v_12 g).bind fun z => match z with
        | (_, h_15) =>
        (gR S_1 h_15 45 3 1).bind fun p_17 =>
        (gI S_1 h_15 p_17 8 2).bind fun v_19 =>
        (ckO S_1 h_15 45 3).bind fun _ =>
        (f_X3_setHead S_1 45 (4 : Int32) v_19 h_15).bind fun z => match z with
        | (_, h_22) =>
        some ((1 : Int32), h_22)) := fun g i' lv' c' s e cg og op => by
    have g3 : g.2.1 50 3 = nI m := (e.i 50 3 rfl).trans e3
    have o52 : ∀ j, g.2.1 52 j = h.2.1 52 j := fun j => e.i 52 j (decide_eq_false (by omega))
    rw [bs_ (yr_45_1' g), bs_ (gi50 g 2), cg.2.2.2.2.2.2.2.1, bs_ (ck_45' g), bs_ (show f_X3_setHead S_1 45 (3 : Int32) (nI c') g = _ from q_setHead (x := 3) g3 hm (by decide) _)]
    dsimp only
    obtain ⟨g1, hg1⟩ : ∃ g1, g1 = stI g 52 (6 * m + 3) (nI c') := ⟨_, rfl⟩
    have cg1 : CS g1 K U n false i' lv' c' := by rw [hg1]; exact cg.hd _ _
    have g13 : g1.2.1 50 3 = nI m := by rw [hg1, ri_p (by decide)]; exact g3
    rw [← hg1, bs_ (yr_45_1' g1), bs_ (gi50 g1 2), cg1.2.2.2.2.2.2.2.1, bs_ (ck_45' g1), bs_ (show f_X3_setHead S_1 45 (4 : Int32) (nI c') g1 = _ from q_setHead (x := 4) g13 hm (by decide) _)]
    dsimp only
    obtain ⟨g2, hg2⟩ : ∃ g2, g2 = stI g1 52 (6 * m + 4) (nI c') := ⟨_, rfl⟩
    have cg2 : CS g2 K U n false i' lv' c' := by rw [hg2]; exact cg1.hd _ _
    have o51 : g2.2.1 51 = g.2.1 51 := funext fun j => by rw [hg2, ri_p (by decide), hg1, ri_p (by decide)]
    have o52' : ∀ j, j < 6 * m + 3 → g2.2.1 52 j = h.2.1 52 j := fun j hj => by rw [hg2, ri_k (by omega), hg1, ri_k (by omega)]; exact o52 j
    rw [← hg2]
    refine ⟨g2, c', rfl, ?_, cg2, by rw [hg2, ri_p (by decide)]; exact g13, fun j hj => by rw [o51]; exact og j hj, fun j hj => o52' j (by omega), (o52' _ (by omega)).trans d1, (o52' _ (by omega)).trans d2, (o52' _ (by omega)).trans d3, c', ?_, ?_, by rw [o51]; exact op, rfl⟩
    · rw [hg2, hg1]
      exact ((e.mono PCr_h).si (PCh_o (by omega))).si (PCh_o (by omega))
    · rw [hg2, ri_k (by omega), hg1, stI_s]
    · rw [hg2, stI_s]
  unfold f_X3_lawClause lawA
  rw [bs_ (ck_45' h), bs_ (q_kind cs.1 n2 cs.2.2.2.1)]
  dsimp only
  by_cases c1 : 263 ≤ K i ∧ K i ≤ 265
  · rw [if_pos c1, if_neg (show ¬ nI (K i) < (263 : Int32) by rw [show (263 : Int32) = nI 263 from rfl, nn_lt (by omega) (by decide)]; omega), if_pos (show nI (K i) ≤ (265 : Int32) by rw [show (265 : Int32) = nI 265 from rfl, nn_le (by omega) (by decide)]; omega), bs_ (ck_45' h)]
    obtain ⟨r1, cs1, e1⟩ := cs.nx (by omega)
    have o1 : ∀ j, (stI h 45 3 (nI (i + 1))).2.1 51 j = h.2.1 51 j := fun j => ri_p (by decide)
    rw [bs_ r1]
    dsimp only
    generalize stI h 45 3 (nI (i + 1)) = h1 at cs1 e1 o1
    by_cases c2 : K i = 265
    · rw [if_pos c2, if_pos (show nI (K i) = (265 : Int32) by rw [c2]; rfl)]
      exact fin h1 (i + 1) lv c none e1 cs1 (fun j _ => o1 j) rfl
    · rw [if_neg c2, if_neg (show ¬ nI (K i) = (265 : Int32) by rw [show (265 : Int32) = nI 265 from rfl, nn_eq (by omega) (by decide)]; exact c2), bs_ (ck_45' h1)]
      have q := q_sumC cs1
      revert q
      rcases sumS K U false 8 (i + 1) lv with j | ⟨i', lv', d⟩
      · rintro ⟨h2, r2, e2, v2⟩
        rw [bs_ r2]
        dsimp only
        rw [if_pos rfl]
        exact ⟨h2, rfl, (e1.trans e2).mono PCr_h, v2⟩
      · rintro ⟨h2, c2', r2, e2, cs2, o2, op2⟩
        rw [bs_ r2]
        dsimp only
        rw [if_neg (show ¬ (1 : Int32) = 0 by decide)]
        exact fin h2 i' lv' c2' (some d) (e1.trans e2) cs2 (fun j hj => (o2 j hj).trans (o1 j)) op2
  · rw [if_neg c1]
    by_cases c2 : K i < 263
    · rw [if_pos (show nI (K i) < (263 : Int32) by rw [show (263 : Int32) = nI 263 from rfl, nn_lt (by omega) (by decide)]; exact c2)]
      exact ⟨h, rfl, Eqv.refl h, cs.2.2.2.1⟩
    · rw [if_neg (show ¬ nI (K i) < (263 : Int32) by rw [show (263 : Int32) = nI 263 from rfl, nn_lt (by omega) (by decide)]; exact c2), if_neg (show ¬ nI (K i) ≤ (265 : Int32) by rw [show (265 : Int32) = nI 265 from rfl, nn_le (by omega) (by decide)]; omega)]
      exact ⟨h, rfl, Eqv.refl h, cs.2.2.2.1⟩
