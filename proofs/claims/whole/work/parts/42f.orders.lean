/-! the call orders: what goes ahead, on the other side -/
def PMo (p j : Nat) : Bool := PFb p j || decide (p = 80 ∧ (j = 0 ∨ 50 ≤ j ∧ j ≤ 52) ∨ p = 85 ∧ 288 ≤ j ∨ p = 87 ∨ p = 88)
theorem PFb_o2 (p j : Nat) (h : PFb p j = true) : PMo p j = true := by unfold PMo; rw [h]; rfl
theorem PMo_o {p j : Nat} (h : p = 80 ∧ (j = 0 ∨ 50 ≤ j ∧ j ≤ 52) ∨ p = 85 ∧ 288 ≤ j ∨ p = 87 ∨ p = 88) : PMo p j = true := by
  unfold PMo
  rw [decide_eq_true h, Bool.or_true]
theorem PMo_no {p j : Nat} (h : ¬ (90 ≤ p ∧ p ≤ 94 ∨ p = 108 ∨ p = 80 ∧ (13 ≤ j ∧ j ≤ 30 ∨ j = 0 ∨ 50 ≤ j ∧ j ≤ 52) ∨ p = 85 ∧ 288 ≤ j ∨ p = 87 ∨ p = 88)) : PMo p j = false := by
  unfold PMo
  rw [show PFb p j = false from decide_eq_false (by omega), decide_eq_false (by omega)]
  rfl
theorem PMo_T {p j : Nat} (h : PGT p j = false) : PMo p j = false ∨ p = 80 ∧ j = 20 := by
  rcases PFb_T h with a | a
  · refine Or.inl ?_
    unfold PMo
    rw [a]
    refine decide_eq_false fun z => ?_
    have : PGT p j = true := by
      by_cases c : p = 85 ∨ p = 80 ∧ j = 52
      · exact PGT_of (by omega)
      · exact PGT_of (Or.inl (decide_eq_true (by omega)))
    rw [this] at h
    cases h
  · exact Or.inr a
def tailM (z : (Int32 ⊕ Nat) × AH) : Option (Int32 × AH) := match z with
    | (.inl w, h') => some (w, h')
    | (.inr r0_23, h_22) =>
      (gI S_1 h_22 r0_23 11 50).bind fun v_24 =>
      (ckO S_1 h_22 r0_23 11).bind fun _ =>
      (f_X11_tell S_1 r0_23 v_24 h_22).bind fun z => match z with
      | (z_28, h_27) =>
      some (z_28, h_27)
def ordJ (r0 : Nat) (h_2 : AH) : Option (Int32 × AH) :=
  (gI S_1 h_2 r0 11 19).bind fun v_4 =>
  if v_4 = (0 : Int32) then
    (ckO S_1 h_2 r0 11).bind fun _ =>
    (f_X11_keepAll S_1 r0 (17 : Int32) h_2).bind fun z => match z with
    | (_, h_8) =>
    (gI S_1 h_8 r0 11 8).bind fun v_10 =>
    (f_X11_orders_l77 S_1 FU r0 v_10 (0 : Int32) h_8).bind fun z => match z with
    | ((r0_13, x1_14), h_12) =>
    (f_X11_orders_l104 S_1 FU r0_13 x1_14 (0 : Int32) h_12).bind fun z => match z with
    | ((r0_16, x1_17), h_15) =>
    (pI S_1 h_15 r0_16 11 50 (0 : Int32)).bind fun h_18 =>
    (pI S_1 h_18 r0_16 11 51 (-1 : Int32)).bind fun h_20 =>
    (f_X11_orders_l140 S_1 FU r0_16 x1_17 (0 : Int32) h_20).bind tailM
  else
    (ckO S_1 h_2 r0 11).bind fun _ =>
    (f_X11_tell S_1 r0 (-6 : Int32) h_2).bind fun z => match z with
    | (z_31, h_30) =>
    some (z_31, h_30)
theorem m_77 (had : Int32) (h : AH) : ∃ h', f_X11_orders_l77 S_1 FU 80 had (0 : Int32) h = some ((80, had), h') ∧ Cpd 87 85 0 0 288 h h' := by
  obtain ⟨h', q, c⟩ := cp_loop (fun fu x h => f_X11_orders_l77 S_1 fu 80 had x h) (80, had) 87 85 0 0 288 (Or.inl (by decide)) (fun fu h => by
    show f_X11_orders_l77 S_1 (fu + 1) 80 had (nI 288) h = _
    rw [f_X11_orders_l77]
    unfold f_X11_orders_l77b
    rw [if_pos (by decide)]) (fun fu h k hk => by
    show f_X11_orders_l77 S_1 (fu + 1) 80 had (nI k) h = f_X11_orders_l77 S_1 fu 80 had (nI (k + 1)) _
    rw [f_X11_orders_l77]
    unfold f_X11_orders_l77b
    rw [if_neg (by rw [show (288 : Int32) = nI 288 from rfl, nn_le (by decide) (by omega)]; omega), bs_ (yr_80_9 h), bs_ (yr_80_6 h), bs_ (ai_85 h (by omega)), bs_ (si_87 h _ hk), lt_e, nI_1, Nat.zero_add]) h
  exact ⟨h', q FU (by unfold FU; omega), c⟩
theorem m_104 (had : Int32) (h : AH) : ∃ h', f_X11_orders_l104 S_1 FU 80 had (0 : Int32) h = some ((80, had), h') ∧ Cpd 88 86 0 0 16 h h' := by
  obtain ⟨h', q, c⟩ := cp_loop (fun fu x h => f_X11_orders_l104 S_1 fu 80 had x h) (80, had) 88 86 0 0 16 (Or.inl (by decide)) (fun fu h => by
    show f_X11_orders_l104 S_1 (fu + 1) 80 had (nI 16) h = _
    rw [f_X11_orders_l104]
    unfold f_X11_orders_l104b
    rw [if_pos (by decide)]) (fun fu h k hk => by
    show f_X11_orders_l104 S_1 (fu + 1) 80 had (nI k) h = f_X11_orders_l104 S_1 fu 80 had (nI (k + 1)) _
    rw [f_X11_orders_l104]
    unfold f_X11_orders_l104b
    rw [if_neg (by rw [show (16 : Int32) = nI 16 from rfl, nn_le (by decide) (by omega)]; omega), bs_ (yr_80_10 h), bs_ (yr_80_7 h), bs_ (ai_86 h hk), bs_ (si_88 h _ hk), lt_e, nI_1, Nat.zero_add]) h
  exact ⟨h', q FU (by unfold FU; omega), c⟩
theorem m_gb8 (had : Int32) (h : AH) : ∃ h', f_X11_giveBack_l8 S_1 FU 80 had (0 : Int32) h = some ((80, had), h') ∧ Cpd 85 87 0 0 288 h h' := by
  obtain ⟨h', q, c⟩ := cp_loop (fun fu x h => f_X11_giveBack_l8 S_1 fu 80 had x h) (80, had) 85 87 0 0 288 (Or.inl (by decide)) (fun fu h => by
    show f_X11_giveBack_l8 S_1 (fu + 1) 80 had (nI 288) h = _
    rw [f_X11_giveBack_l8]
    unfold f_X11_giveBack_l8b
    rw [if_pos (by decide)]) (fun fu h k hk => by
    show f_X11_giveBack_l8 S_1 (fu + 1) 80 had (nI k) h = f_X11_giveBack_l8 S_1 fu 80 had (nI (k + 1)) _
    rw [f_X11_giveBack_l8]
    unfold f_X11_giveBack_l8b
    rw [if_neg (by rw [show (288 : Int32) = nI 288 from rfl, nn_le (by decide) (by omega)]; omega), bs_ (yr_80_6 h), bs_ (yr_80_9 h), bs_ (ai_87 h hk), bs_ (si_85 h _ (by omega)), lt_e, nI_1, Nat.zero_add]) h
  exact ⟨h', q FU (by unfold FU; omega), c⟩
theorem m_gb35 (had : Int32) (h : AH) : ∃ h', f_X11_giveBack_l35 S_1 FU 80 had (0 : Int32) h = some ((80, had), h') ∧ Cpd 86 88 0 0 16 h h' := by
  obtain ⟨h', q, c⟩ := cp_loop (fun fu x h => f_X11_giveBack_l35 S_1 fu 80 had x h) (80, had) 86 88 0 0 16 (Or.inl (by decide)) (fun fu h => by
    show f_X11_giveBack_l35 S_1 (fu + 1) 80 had (nI 16) h = _
    rw [f_X11_giveBack_l35]
    unfold f_X11_giveBack_l35b
    rw [if_pos (by decide)]) (fun fu h k hk => by
    show f_X11_giveBack_l35 S_1 (fu + 1) 80 had (nI k) h = f_X11_giveBack_l35 S_1 fu 80 had (nI (k + 1)) _
    rw [f_X11_giveBack_l35]
    unfold f_X11_giveBack_l35b
    rw [if_neg (by rw [show (16 : Int32) = nI 16 from rfl, nn_le (by decide) (by omega)]; omega), bs_ (yr_80_7 h), bs_ (yr_80_10 h), bs_ (ai_88 h hk), bs_ (si_86 h _ hk), lt_e, nI_1, Nat.zero_add]) h
  exact ⟨h', q FU (by unfold FU; omega), c⟩
theorem J20.cp {q q' a c N : Nat} {h h' : AH} (k : Cpd q q' a c N h h') : J20 h h' := by
  unfold J20
  rw [k.2.1]
/-- the text is no text of orders -/
theorem m_ordJb {h2 : AH} {b : Nat → Nat} {t j : Nat} (re : REd h2 b t HdOs (.inl j)) : ∃ w, ordJ 80 h2 = some (-6, w) ∧ Eqv PB0 h2 w ∧ StM h2 w (-6) := by
  obtain ⟨w, q2, e4, s2⟩ := m_tell h2 (-6) ok6
  refine ⟨w, ?_, e4, s2⟩
  unfold ordJ
  rw [bs_ (gi80 h2 19), re.1, if_neg (by decide), bs_ (ck_80 h2), bs_ q2]
theorem m_ordJg {h2 : AH} {b : Nat → Nat} {t m z : Nat} {f : Nat → Co} {r : Nat → Int32} (re : REd h2 b t HdOs (.inr (m, f))) (e8 : h2.2.1 80 8 = nI z) (er : h2.2.1 82 = r) : ∃ w6 c', ordJ 80 h2 = (f_X11_orders_l140 S_1 FU 80 (nI z) (nI 0) w6).bind tailM ∧ Eqv PMo h2 w6 ∧ J20 h2 w6 ∧ w6.2.1 80 20 = h2.2.1 80 20 ∧ w6.2.1 80 13 = h2.2.1 80 13 ∧ w6.2.1 80 18 = -1 ∧ w6.2.1 80 52 = h2.2.1 80 52 ∧ w6.2.1 80 50 = nI 0 ∧ w6.2.1 80 51 = -1 ∧ w6.2.1 80 21 = nI m ∧ m ≤ 12 ∧ c' ≤ 400 ∧ HdOs w6 m f c' ∧ (∀ j, j < 18 → w6.2.1 85 (306 + j) = r (5 + j)) ∧ (∀ j, j < 288 → w6.2.1 87 j = h2.2.1 85 j) ∧ ∀ j, j < 16 → w6.2.1 88 j = h2.2.1 86 j := by
  obtain ⟨u19, u18, u21, hm, c', u23, hc', hs⟩ := re
  obtain ⟨h3, q3, c3⟩ := m_keepAll h2 (k := 17) (by decide)
  obtain ⟨h4, q4, c4⟩ := m_77 (nI z) h3
  obtain ⟨h5, q5, c5⟩ := m_104 (nI z) h4
  obtain ⟨h6, hh6⟩ : ∃ h6, h6 = stI (stI h5 80 50 0) 80 51 (-1) := ⟨_, rfl⟩
  have o6 : ∀ p j, ¬ (p = 80 ∧ (j = 50 ∨ j = 51)) → h6.2.1 p j = h5.2.1 p j := fun p j hp => by rw [hh6, st_o (by omega), st_o (by omega)]
  have o : ∀ p j, p ≠ 85 → p ≠ 87 → p ≠ 88 → ¬ (p = 80 ∧ (j = 50 ∨ j = 51)) → h6.2.1 p j = h2.2.1 p j := fun p j a b c d => (o6 p j d).trans ((c5.n c).trans ((c4.n b).trans (c3.n a)))
  have e3 : Eqv PMo h2 h3 := c3.eq fun j a b => PMo_o (by omega)
  have e4 : Eqv PMo h3 h4 := c4.eq fun j a b => PMo_o (by omega)
  have e5 : Eqv PMo h4 h5 := c5.eq fun j a b => PMo_o (by omega)
  refine ⟨h6, c', ?_, ?_, ?_, o _ _ (by decide) (by decide) (by decide) (by decide), o _ _ (by decide) (by decide) (by decide) (by decide), (o _ _ (by decide) (by decide) (by decide) (by decide)).trans u18, o _ _ (by decide) (by decide) (by decide) (by decide), ?_, ?_, (o _ _ (by decide) (by decide) (by decide) (by decide)).trans u21, hm, hc', fun y hy => (hs y hy).cong (Nat.le_refl _) (fun j _ => ⟨o _ _ (by decide) (by decide) (by decide) (by omega), o _ _ (by decide) (by decide) (by decide) (by omega)⟩) (fun j _ => o _ _ (by decide) (by decide) (by decide) (by omega)), fun j hj => ?_, fun j hj => ?_, fun j hj => ?_⟩
  · unfold ordJ
    rw [bs_ (gi80 h2 19), u19, if_pos rfl, bs_ (ck_80 h2), bs_ (show f_X11_keepAll S_1 80 (17 : Int32) h2 = _ from q3)]
    dsimp only
    rw [bs_ (gi80 h3 8), c3.n (by decide), e8, bs_ q4]
    dsimp only
    rw [bs_ q5]
    dsimp only
    rw [bs_ (pi80 h5 50 _), bs_ (pi80 _ 51 _), ← hh6]
    rfl
  · rw [hh6]
    exact ((e3.trans (e4.trans e5)).si (PMo_o (by omega))).si (PMo_o (by omega))
  · have a : J20 h5 h6 := by rw [hh6]; rfl
    exact ((J20.cp c3).trans ((J20.cp c4).trans (J20.cp c5))).trans a
  · rw [hh6, ri_k (by decide), stI_s]
    rfl
  · rw [hh6, stI_s]
  · rw [o6 _ _ (by omega), c5.n (by decide), c4.n (by decide), ← er]
    exact c3.i (j := j) hj
  · rw [o6 _ _ (by omega), c5.n (by decide)]
    have := c4.i (j := j) hj
    rw [Nat.zero_add] at this
    rw [this]
    exact c3.o (by omega)
  · rw [o6 _ _ (by omega)]
    have := c5.i (j := j) hj
    rw [Nat.zero_add] at this
    rw [this, c4.n (by decide)]
    exact c3.n (by decide)
/-- where the other side stops: all is as it was -/
def PGb (p j : Nat) : Bool := decide (p = 82 ∧ j < 90 ∨ p = 85 ∧ j < 288 ∨ p = 86 ∨ p = 80 ∧ (j = 8 ∨ j = 52))
theorem m_failM {g : AH} {z : Nat} (y : Nat) : ∃ g2 g', failM2 (nI z) y g = some (.inl (-3), g') ∧ Eqv PGb g g2 ∧ J20 g g2 ∧ (∀ j, j < 18 → g2.2.1 82 (5 + j) = g.2.1 85 (306 + j)) ∧ (∀ j, j < 5 ∨ 23 ≤ j → g2.2.1 82 j = g.2.1 82 j) ∧ (∀ j, j < 288 → g2.2.1 85 j = g.2.1 87 j) ∧ (∀ j, j < 16 → g2.2.1 86 j = g.2.1 88 j) ∧ g2.2.1 80 8 = nI z ∧ g2.2.1 80 52 = nI y ∧ Eqv PB0 g2 g' ∧ StM g2 g' (-3) := by
  obtain ⟨h1, q1, c1⟩ := m_putBack g (k := 17) (by decide)
  obtain ⟨h2, q2, c2⟩ := m_gb8 (nI z) h1
  obtain ⟨h3, q3, c3⟩ := m_gb35 (nI z) h2
  obtain ⟨h4, hh4⟩ : ∃ h4, h4 = stI h3 80 8 (nI z) := ⟨_, rfl⟩
  obtain ⟨h5, hh5⟩ : ∃ h5, h5 = stI h4 80 52 (nI y) := ⟨_, rfl⟩
  obtain ⟨h6, q6, e6, s6⟩ := m_tell h5 (-3) (Or.inr (Or.inr (Or.inr (Or.inl rfl))))
  have o5 : ∀ p j, p ≠ 80 → h5.2.1 p j = h3.2.1 p j := fun p j hp => by rw [hh5, ri_p hp, hh4, ri_p hp]
  refine ⟨h5, h6, ?_, ?_, ?_, fun j hj => ?_, fun j hj => ?_, fun j hj => ?_, fun j hj => ?_, ?_, ?_, e6, s6⟩
  · have gb : f_X11_giveBack S_1 80 (nI z) g = some ((), h4) := by
      unfold f_X11_giveBack
      rw [bs_ (ck_80 g), bs_ (show f_X11_putBack S_1 80 (17 : Int32) g = _ from q1)]
      dsimp only
      rw [bs_ q2]
      dsimp only
      rw [bs_ q3]
      dsimp only
      rw [bs_ (pi80 h3 8 _), ← hh4]
    have fm : failM (nI z) y g = some (.inl (-3), h6) := by
      unfold failM
      rw [bs_ (ck_80 g), bs_ gb]
      dsimp only
      rw [bs_ (pi80 h4 52 _), ← hh5, bs_ (ck_80 h5), bs_ q6]
    unfold failM2
    rw [bs_ fm]
  · rw [hh5, hh4]
    have a1 : Eqv PGb g h1 := c1.eq fun j a b => decide_eq_true (by omega)
    have a2 : Eqv PGb h1 h2 := c2.eq fun j a b => decide_eq_true (by omega)
    have a3 : Eqv PGb h2 h3 := c3.eq fun j a b => decide_eq_true (by omega)
    exact ((a1.trans (a2.trans a3)).si (decide_eq_true (by omega))).si (decide_eq_true (by omega))
  · have a : J20 h3 h5 := by rw [hh5, hh4]; rfl
    exact ((J20.cp c1).trans ((J20.cp c2).trans (J20.cp c3))).trans a
  · rw [o5 82 _ (by decide), c3.n (by decide), c2.n (by decide)]
    exact c1.i (j := j) hj
  · rw [o5 82 _ (by decide), c3.n (by decide), c2.n (by decide)]
    exact c1.o (by omega)
  · rw [o5 85 _ (by decide), c3.n (by decide)]
    have := c2.i (j := j) hj
    rw [Nat.zero_add] at this
    rw [this]
    exact c1.n (by decide)
  · rw [o5 86 _ (by decide)]
    have := c3.i (j := j) hj
    rw [Nat.zero_add] at this
    rw [this, c2.n (by decide)]
    exact c1.n (by decide)
  · rw [hh5, ri_k (by decide), hh4, stI_s]
  · rw [hh5, stI_s]
