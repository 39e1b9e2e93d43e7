/-! orders: which have their sums -/
def HsS (k : Nat) (r : Nat ⊕ (Nat × Nat × Option DD × Option DD × Nat)) : Prop := match r with
  | .inl _ => True
  | .inr (_, _, s1, s2, _) => (k ≠ 269 → s1 ≠ none) ∧ (k = 266 ∨ k = 268 → s2 ≠ none)
theorem tim_s {K U : Nat → Nat} {i lv k : Nat} {s1 s2 : Option DD} (h1 : k ≠ 269 → s1 ≠ none) (h2 : k = 266 ∨ k = 268 → s2 ≠ none) : HsS k (timS K U i lv s1 s2) := by
  unfold timS
  by_cases c : K i = 260
  · rw [if_pos c]
    by_cases c2 : K (i + 1) = 284 ∧ 1 ≤ U (i + 1) ∧ U (i + 1) ≤ 20
    · rw [if_pos c2]
      exact ⟨h1, h2⟩
    · rw [if_neg c2]
      trivial
  · rw [if_neg c]
    exact ⟨h1, h2⟩
theorem sec_s {K U : Nat → Nat} {i lv k : Nat} {s1 : Option DD} (h1 : k ≠ 269 → s1 ≠ none) : HsS k (sec2S K U k i lv s1) := by
  unfold sec2S
  by_cases c : k = 266 ∨ k = 268
  · rw [if_pos c]
    by_cases c2 : K i = (if k = 266 then 261 else 262)
    · rw [if_pos c2]
      rcases sumS K U true 8 (i + 1) lv with j | ⟨i', lv', d⟩
      · trivial
      · exact tim_s h1 fun _ z => by cases z
    · rw [if_neg c2]
      trivial
  · rw [if_neg c]
    exact tim_s h1 fun z => absurd z c
theorem ordA_s (K U : Nat → Nat) (i lv : Nat) : HsS (K i) (ordA K U i lv) := by
  unfold ordA
  by_cases c : 266 ≤ K i ∧ K i ≤ 269
  · rw [if_pos c]
    by_cases c2 : K i = 269
    · rw [if_pos c2]
      exact sec_s fun z => absurd c2 z
    · rw [if_neg c2]
      rcases sumS K U true 8 (i + 1) lv with j | ⟨i', lv', d⟩
      · trivial
      · exact sec_s fun _ z => by cases z
  · rw [if_neg c]
    trivial
def HsC (x : Co) : Prop := (x.1 ≠ 269 → x.2.1.1 ≠ none) ∧ (x.1 = 266 ∨ x.1 = 268 → x.2.1.2.1 ≠ none)
theorem clau_s {K U : Nat → Nat} {i lv i' lv' : Nat} {x : Co} (h : clauS K U true i lv = .inr (i', lv', x)) : HsC x := by
  rw [fin3_e] at h
  have q := ordA_s K U i lv
  revert q h
  rcases ordA K U i lv with j | ⟨i1, lv1, s1, s2, tm⟩
  · intro h _
    cases h
  · intro h q
    have h : (match ifS K U true i1 lv1 with
      | .inl j => (.inl j : Nat ⊕ (Nat × Nat × Co))
      | .inr (i2, lv2, t) => .inr (i2, lv2, K i, (s1, s2, t), tm)) = .inr (i', lv', x) := h
    revert h
    rcases ifS K U true i1 lv1 with j | ⟨i2, lv2, t⟩
    · intro h
      cases h
    · intro h
      injection h with h
      injection h with _ h
      injection h with _ h
      rw [← h]
      exact q
theorem text_s {K U : Nat → Nat} : ∀ (rem m : Nat) (f : Nat → Co) (i lv m' : Nat) (f' : Nat → Co), textS K U true rem m f i lv = .inr (m', f') → (∀ y, y < m → HsC (f y)) → ∀ y, y < m' → HsC (f' y)
  | 0, m, f, i, lv, m', f', h, _ => by cases h
  | rem + 1, m, f, i, lv, m', f', h, hf => by
    rw [textS] at h
    revert h
    cases e : clauS K U true i lv with
    | inl j => intro h; cases h
    | inr z =>
      obtain ⟨i', lv', x⟩ := z
      have hx := clau_s e
      have hf' : ∀ y, y < m + 1 → HsC (if y = m then x else f y) := fun y hy => by
        by_cases ey : y = m
        · rw [if_pos ey]; exact hx
        · rw [if_neg ey]; exact hf y (by omega)
      dsimp only
      by_cases c1 : K i' = 59
      · rw [if_pos c1]
        exact fun h => text_s rem (m + 1) _ _ _ m' f' h hf'
      · rw [if_neg c1]
        by_cases c2 : K i' = 285
        · rw [if_pos c2]
          intro h
          injection h with h
          injection h with h1 h2
          rw [← h1, ← h2]
          exact hf'
        · rw [if_neg c2]
          intro h
          cases h
/-! one clause of orders, as often as it tells -/
def failM (had : Int32) (y : Nat) (g : AH) : Option ((Int32 ⊕ (Nat × Int32 × Int32)) × AH) :=
  (ckO S_1 g 80 11).bind fun _ =>
  (f_X11_giveBack S_1 80 had g).bind fun z => match z with
  | (_, h_12) =>
  (pI S_1 h_12 80 11 52 (nI y)).bind fun h_14 =>
  (ckO S_1 h_14 80 11).bind fun _ =>
  (f_X11_tell S_1 80 (-3 : Int32) h_14).bind fun z => match z with
  | (z_18, h_17) =>
  some (.inl z_18, h_17)
theorem inl_bind {α τ : Type} (x : Option α) (K : α → Option ((Int32 ⊕ τ) × AH)) (h : ∀ a, K a = none ∨ ∃ w h', K a = some (.inl w, h')) : x.bind K = none ∨ ∃ w h', x.bind K = some (.inl w, h') := by
  rcases x with _ | a
  · exact Or.inl rfl
  · exact h a
theorem failM_inl (had : Int32) (y : Nat) (g : AH) : failM had y g = none ∨ ∃ w h', failM had y g = some (.inl w, h') := by
  unfold failM
  refine inl_bind _ _ fun _ => ?_
  refine inl_bind _ _ fun z => ?_
  obtain ⟨_, h1⟩ := z
  refine inl_bind _ _ fun _ => ?_
  refine inl_bind _ _ fun _ => ?_
  refine inl_bind _ _ fun z => ?_
  obtain ⟨w, h2⟩ := z
  exact Or.inr ⟨w, h2, rfl⟩
/-- both have gone on, or both have stopped -/
def LoB (p n : Nat) (f : Nat → Cl) (nb nm D : Nat) {α β : Type} (hx hm : AH) (X : Option (α × AH)) (xo : α) (xf : AH → Option (α × AH)) (M : Option (β × AH)) (mo : β) (mf : AH → Option (β × AH)) : Prop :=
  (∃ hx' hm' d', X = some (xo, hx') ∧ M = some (mo, hm') ∧ Eqv PTc hx hx' ∧ Eqv PTm hm hm' ∧ Ag (hm.2.1 82) (hm'.2.1 82) ∧ OS p n f nb nm (hm'.2.1 82) hx' hm' ∧ hx'.2.1 0 18 = nI d' ∧ hm'.2.1 80 50 = nI d' ∧ d' ≤ D ∧ hx'.2.1 0 19 = hm'.2.1 80 51) ∨
  (∃ hx' hm', X = xf hx' ∧ M = mf hm' ∧ Eqv PTc hx hx' ∧ Eqv PTm hm hm' ∧ Ag (hm.2.1 82) (hm'.2.1 82))
theorem LoB.from {p n nb nm D : Nat} {f : Nat → Cl} {α β : Type} {h g h1 g1 : AH} {X : Option (α × AH)} {xo : α} {xf : AH → Option (α × AH)} {M : Option (β × AH)} {mo : β} {mf : AH → Option (β × AH)} (e : Eqv PTc h h1) (e' : Eqv PTm g g1) (ag : Ag (g.2.1 82) (g1.2.1 82)) (k : LoB p n f nb nm D h1 g1 X xo xf M mo mf) : LoB p n f nb nm D h g X xo xf M mo mf := by
  rcases k with ⟨hx', hm', d', a1, a2, a3, a4, a5, a6⟩ | ⟨hx', hm', a1, a2, a3, a4, a5⟩
  · exact Or.inl ⟨hx', hm', d', a1, a2, e.trans a3, e'.trans a4, ag.tr a5, a6⟩
  · exact Or.inr ⟨hx', hm', a1, a2, e.trans a3, e'.trans a4, ag.tr a5⟩
theorem times_both {p n nb nm y c c' i m1 m2 j tm : Nat} {f : Nat → Cl} {x : Co} (had : Int32) (hy : y < 12) (htm : x.2.2 = tm) (ht20 : tm ≤ 20) : ∀ (rem w F F' d : Nat) (r : Nat → Int32) (h g : AH), w + rem = tm → rem < F → rem < F' → OS p n f nb nm r h g → h.2.1 0 18 = nI d → g.2.1 80 50 = nI d → h.2.1 0 19 = g.2.1 80 51 → ClB h g y c c' x i m1 m2 j → LoB p n f nb nm (d + rem) h g (f_X10_runClause_l42 S_1 F 0 50 (nI y) (nI tm) (nI i) (nI m1) (nI m2) (nI j) (nI w) h) (.inr ()) (fun u => some (.inl 0, u)) (f_X11_orders_l150 S_1 F' 80 had (nI y) (nI w) g) (.inr (80, had, nI y)) (failM had y) := by
  intro rem
  induction rem with
  | zero =>
    intro w F F' d r h g hw hF hF' os hd hd' hl cb
    obtain ⟨F, rfl⟩ : ∃ x, F = x + 1 := ⟨F - 1, by omega⟩
    obtain ⟨F', rfl⟩ : ∃ x, F' = x + 1 := ⟨F' - 1, by omega⟩
    have v7 : g.2.1 108 (8 * y + 7) = nI tm := by rw [← htm]; exact cb.2.1.2.1
    rw [f_X10_runClause_l42, f_X11_orders_l150]
    unfold f_X10_runClause_l42b f_X11_orders_l150b
    rw [if_pos (show nI tm ≤ nI w by rw [nn_le (by omega) (by omega)]; omega), bs_ (yr_80_49 g), show (8 : Int32) * nI y + (7 : Int32) = nI (8 * y + 7) by rw [show (8 : Int32) * nI y = nI (8 * y) from pk_mul 8 y, show nI (8 * y) + (7 : Int32) = nI (8 * y + 7) from nI_add _ 7], bs_ (ai_108 g (by omega)), v7, if_pos (show nI tm ≤ nI w by rw [nn_le (by omega) (by omega)]; omega)]
    refine Or.inl ⟨h, g, d, rfl, rfl, Eqv.refl h, Eqv.refl g, Ag.refl _, ?_, hd, hd', by omega, hl⟩
    rw [os.2.2.1]
    exact os
  | succ rem ih =>
    intro w F F' d r h g hw hF hF' os hd hd' hl cb
    obtain ⟨F, rfl⟩ : ∃ x, F = x + 1 := ⟨F - 1, by omega⟩
    obtain ⟨F', rfl⟩ : ∃ x, F' = x + 1 := ⟨F' - 1, by omega⟩
    have v7 : g.2.1 108 (8 * y + 7) = nI tm := by rw [← htm]; exact cb.2.1.2.1
    have q := turn_both (w := w) (tm := tm) (f_X10_runClause_l42 S_1 F) os hd hd' hl hy cb
    rw [f_X10_runClause_l42]
    unfold f_X10_runClause_l42b
    rw [if_neg (show ¬ nI tm ≤ nI w by rw [nn_le (by omega) (by omega)]; omega)]
    change LoB p n f nb nm (d + (rem + 1)) h g (turnX (f_X10_runClause_l42 S_1 F) (nI y) (nI tm) (nI i) (nI m1) (nI m2) (nI j) (nI w) h) (.inr ()) (fun u => some (.inl 0, u)) (f_X11_orders_l150 S_1 (F' + 1) 80 had (nI y) (nI w) g) (.inr (80, had, nI y)) (failM had y)
    generalize turnX (f_X10_runClause_l42 S_1 F) (nI y) (nI tm) (nI i) (nI m1) (nI m2) (nI j) (nI w) h = X at q ⊢
    rw [f_X11_orders_l150]
    unfold f_X11_orders_l150b
    rw [bs_ (yr_80_49 g), show (8 : Int32) * nI y + (7 : Int32) = nI (8 * y + 7) by rw [show (8 : Int32) * nI y = nI (8 * y) from pk_mul 8 y, show nI (8 * y) + (7 : Int32) = nI (8 * y + 7) from nI_add _ 7], bs_ (ai_108 g (by omega)), v7, if_neg (show ¬ nI tm ≤ nI w by rw [nn_le (by omega) (by omega)]; omega), bs_ (ck_80 g), show (8 : Int32) * nI y = nI (8 * y) from pk_mul 8 y]
    rcases q with ⟨h1, g1, d1, q1, q2, e1, e2, ag, os1, hd1, hd1', hle, hl1⟩ | ⟨h1, g1, q1, q2, e1, e2, ag⟩
    · rw [bs_ q2]
      dsimp only
      rw [if_pos (show (0 : Int32) ≤ 0 by decide), lt_e, nI_1]
      have k := LoB.from e1 e2 ag (ih (w + 1) F F' d1 _ h1 g1 (by omega) (by omega) (by omega) os1 hd1 hd1' hl1 (cb.f e1 e2))
      rw [show (f_X10_runClause_l42 S_1 F 0 50 (nI y) (nI tm) (nI i) (nI m1) (nI m2) (nI j) (nI (w + 1)) h1) = X from q1.symm] at k
      rcases k with ⟨a1, a2, a3, a4, a5, a6, a7, a8, a9, b1, b2, b3, b4⟩ | k
      · exact Or.inl ⟨a1, a2, a3, a4, a5, a6, a7, a8, a9, b1, b2, by omega, b4⟩
      · exact Or.inr k
    · rw [bs_ q2]
      dsimp only
      rw [if_neg (show ¬ (0 : Int32) ≤ -3 by decide)]
      exact Or.inr ⟨h1, g1, q1, rfl, e1, e2, ag⟩
theorem clause_both {p n nb nm y c c' d : Nat} {f : Nat → Cl} {r : Nat → Int32} {h g : AH} {x : Co} (had : Int32) (F' : Nat) (hy : y < 12) (os : OS p n f nb nm r h g) (hd : h.2.1 0 18 = nI d) (hd' : g.2.1 80 50 = nI d) (hl : h.2.1 0 19 = g.2.1 80 51) (hf : HdF (h.2.1 51) (h.2.1 52) y x c) (hc : c ≤ 400) (ho : HdO g y x c') (hc' : c' ≤ 400) (hs : HsC x) (hF : 20 < F') : LoB p n f nb nm (d + 20) h g (f_X10_runClause S_1 0 50 (nI y) h) (1 : Int32) (fun u => some (0, u)) (f_X11_orders_l150 S_1 F' 80 had (nI y) (0 : Int32) g) (.inr (80, had, nI y)) (failM had y) := by
  obtain ⟨a0, a1, i, m1, m2, j, b1, b2, b3, b4, b5, b6, b7, b8⟩ := hf
  have l20 := ho.2.2.1.2.2.2
  have k := times_both (p := p) (n := n) (nb := nb) (nm := nm) (f := f) had hy (x := x) rfl l20 x.2.2 0 FU F' d r h g (by omega) (by unfold FU; omega) (by omega) os hd hd' hl (c := c) (c' := c') (i := i) (m1 := m1) (m2 := m2) (j := j) ⟨⟨a0, b6, b7, b8, b5, hc⟩, ho, hc', hs⟩
  have R : f_X10_runClause S_1 0 50 (nI y) h = (f_X10_runClause_l42 S_1 FU 0 50 (nI y) (nI x.2.2) (nI i) (nI m1) (nI m2) (nI j) (nI 0) h).bind fun z => match z with
      | (.inl w, h') => some (w, h')
      | (.inr (), h_16) => some ((1 : Int32), h_16) := by
    unfold f_X10_runClause
    rw [bs_ (ck_50 h), bs_ (show f_X8_head S_1 50 (nI y) (1 : Int32) h = _ from q_hd52 (k := 1) hy (by decide))]
    dsimp only
    rw [bs_ (ck_50 h), bs_ (show f_X8_head S_1 50 (nI y) (2 : Int32) h = _ from q_hd52 (k := 2) hy (by decide))]
    dsimp only
    rw [bs_ (ck_50 h), bs_ (show f_X8_head S_1 50 (nI y) (3 : Int32) h = _ from q_hd52 (k := 3) hy (by decide))]
    dsimp only
    rw [bs_ (ck_50 h), bs_ (show f_X8_head S_1 50 (nI y) (4 : Int32) h = _ from q_hd52 (k := 4) hy (by decide))]
    dsimp only
    rw [bs_ (ck_50 h), bs_ (show f_X8_head S_1 50 (nI y) (5 : Int32) h = _ from q_hd52 (k := 5) hy (by decide))]
    dsimp only
    rw [a1, b1, b2, b3, b4]
    rfl
  rw [R]
  rcases k with ⟨hx', hm', d', q1, q2, q3, q4, q5, q6, q7, q8, q9, q10⟩ | ⟨hx', hm', q1, q2, q3⟩
  · rw [bs_ q1]
    exact Or.inl ⟨hx', hm', d', rfl, q2, q3, q4, q5, q6, q7, q8, by omega, q10⟩
  · rw [bs_ q1]
    exact Or.inr ⟨hx', hm', rfl, q2, q3⟩
/-- where the class stops -/
def failX (y : Nat) (h_5 : AH) : Option ((Int32 ⊕ Nat) × AH) :=
  (gR S_1 h_5 0 10 2).bind fun p_9 =>
  (gR S_1 h_5 p_9 6 0).bind fun p_11 =>
  (gR S_1 h_5 0 10 6).bind fun p_13 =>
  (ckO S_1 h_5 p_11 7).bind fun _ =>
  (f_X7_become S_1 p_11 p_13 h_5).bind fun z => match z with
  | (_, h_16) =>
  (gR S_1 h_16 0 10 4).bind fun p_18 =>
  (gR S_1 h_16 0 10 5).bind fun p_20 =>
  (ckO S_1 h_16 p_18 5).bind fun _ =>
  (f_X5_become S_1 p_18 p_20 h_16).bind fun z => match z with
  | (_, h_23) =>
  (pI S_1 h_23 0 10 17 (nI y)).bind fun h_25 =>
  (ckO S_1 h_25 0 10).bind fun _ =>
  (f_X10_refuse S_1 0 (-3 : Int32) h_25).bind fun z => match z with
  | (z_29, h_28) =>
  some (.inl z_29, h_28)
def failM2 (had : Int32) (y : Nat) (g : AH) : Option ((Int32 ⊕ Nat) × AH) :=
  (failM had y g).bind fun z => match z with
    | (.inl w, h') => some (.inl w, h')
    | (.inr (r0_5, x1_6, x2_7), h_4) => none
theorem text_both {p n nb nm m c c' : Nat} {f : Nat → Cl} {q : Nat → Co} (had : Int32) (hm : m ≤ 12) (hc : c ≤ 400) (hc' : c' ≤ 400) (hs : ∀ y, y < m → HsC (q y)) : ∀ (rem y F F' d : Nat) (r : Nat → Int32) (h g : AH), y + rem = m → rem < F → rem < F' → OS p n f nb nm r h g → h.2.1 0 18 = nI d → g.2.1 80 50 = nI d → h.2.1 0 19 = g.2.1 80 51 → h.2.1 50 3 = nI m → g.2.1 80 21 = nI m → (∀ y, y < m → HdF (h.2.1 51) (h.2.1 52) y (q y) c) → HdOs g m q c' → ∃ y', LoB p n f nb nm (d + 20 * rem) h g (f_X10_orders_l102 S_1 F 0 50 (nI y) h) (.inr 0) (failX y') (f_X11_orders_l140 S_1 F' 80 had (nI y) g) (.inr 80) (failM2 had y') := by
  intro rem
  induction rem with
  | zero =>
    intro y F F' d r h g hy hF hF' os hd hd' hl v3 v21 hf ho
    obtain ⟨F, rfl⟩ : ∃ x, F = x + 1 := ⟨F - 1, by omega⟩
    obtain ⟨F', rfl⟩ : ∃ x, F' = x + 1 := ⟨F' - 1, by omega⟩
    rw [f_X10_orders_l102, f_X11_orders_l140]
    unfold f_X10_orders_l102b f_X11_orders_l140b
    rw [bs_ (gi50 h 3), v3, if_pos (show nI m ≤ nI y by rw [nn_le (by omega) (by omega)]; omega), bs_ (gi80 g 21), v21, if_pos (show nI m ≤ nI y by rw [nn_le (by omega) (by omega)]; omega)]
    refine ⟨0, Or.inl ⟨h, g, d, rfl, rfl, Eqv.refl h, Eqv.refl g, Ag.refl _, ?_, hd, hd', by omega, hl⟩⟩
    rw [os.2.2.1]
    exact os
  | succ rem ih =>
    intro y F F' d r h g hy hF hF' os hd hd' hl v3 v21 hf ho
    obtain ⟨F, rfl⟩ : ∃ x, F = x + 1 := ⟨F - 1, by omega⟩
    obtain ⟨F', rfl⟩ : ∃ x, F' = x + 1 := ⟨F' - 1, by omega⟩
    have k := clause_both had FU (show y < 12 by omega) os hd hd' hl (hf y (by omega)) hc (ho y (by omega)) hc' (hs y (by omega)) (by unfold FU; omega)
    rw [f_X10_orders_l102, f_X11_orders_l140]
    unfold f_X10_orders_l102b f_X11_orders_l140b
    rw [bs_ (gi50 h 3), v3, if_neg (show ¬ nI m ≤ nI y by rw [nn_le (by omega) (by omega)]; omega), bs_ (ck_0 h), bs_ (gi80 g 21), v21, if_neg (show ¬ nI m ≤ nI y by rw [nn_le (by omega) (by omega)]; omega)]
    rcases k with ⟨h1, g1, d1, q1, q2, e1, e2, ag, os1, hd1, hd1', hle, hl1⟩ | ⟨h1, g1, q1, q2, e1, e2, ag⟩
    · rw [bs_ q1, bs_ q2]
      dsimp only
      rw [if_neg (show ¬ (1 : Int32) = 0 by decide), lt_e, lt_e, nI_1]
      have c51 : h1.2.1 51 = h.2.1 51 := e1.row fun j => PTc_no (by omega)
      have c52 : h1.2.1 52 = h.2.1 52 := e1.row fun j => PTc_no (by omega)
      have k := ih (y + 1) F F' d1 _ h1 g1 (by omega) (by omega) (by omega) os1 hd1 hd1' hl1 ((e1.i 50 3 (PTc_no (by omega))).trans v3) ((e2.i 80 21 (PTm_no (by omega))).trans v21) (by rw [c51, c52]; exact hf) (fun y hy => (ho y hy).cong (Nat.le_refl _) (fun j _ => ⟨e2.i 91 j (PTm_no (by omega)), e2.i 92 j (PTm_no (by omega))⟩) (fun j _ => e2.i 108 j (PTm_no (by omega))))
      have up : ∀ (xf : AH → Option ((Int32 ⊕ Nat) × AH)) (mf : AH → Option ((Int32 ⊕ Nat) × AH)), LoB p n f nb nm (d1 + 20 * rem) h1 g1 (f_X10_orders_l102 S_1 F 0 50 (nI (y + 1)) h1) (.inr 0) xf (f_X11_orders_l140 S_1 F' 80 had (nI (y + 1)) g1) (.inr 80) mf → LoB p n f nb nm (d + 20 * (rem + 1)) h g (f_X10_orders_l102 S_1 F 0 50 (nI (y + 1)) h1) (.inr 0) xf (f_X11_orders_l140 S_1 F' 80 had (nI (y + 1)) g1) (.inr 80) mf := fun xf mf k => by
        rcases LoB.from e1 e2 ag k with ⟨a1, a2, a3, a4, a5, a6, a7, a8, a9, b1, b2, b3, b4⟩ | k
        · exact Or.inl ⟨a1, a2, a3, a4, a5, a6, a7, a8, a9, b1, b2, by omega, b4⟩
        · exact Or.inr k
      obtain ⟨y', k⟩ := k
      exact ⟨y', up _ _ k⟩
    · rw [bs_ q1, q2]
      dsimp only
      rw [if_pos rfl]
      refine ⟨y, Or.inr ⟨h1, g1, rfl, ?_, e1, e2, ag⟩⟩
      unfold failM2
      show (failM had y g1).bind _ = (failM had y g1).bind _
      obtain e | ⟨w, h', e⟩ := failM_inl had y g1
      · rw [e]; rfl
      · rw [e]; rfl
