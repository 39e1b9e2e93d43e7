/-! reading: the other side's pile -/
def Pl (h : AH) : List (Nat × Nat) → Prop
  | [] => True
  | x :: P => h.2.1 93 P.length = nI x.1 ∧ h.2.1 94 P.length = nI x.2 ∧ x.1 < 33 ∧ x.2 < 400 ∧ Pl h P
theorem Pl.cong {h h' : AH} : ∀ {P : List (Nat × Nat)}, Pl h P → (∀ p j, p = 93 ∨ p = 94 → j < P.length → h'.2.1 p j = h.2.1 p j) → Pl h' P
  | [], _, _ => trivial
  | x :: P, ⟨a, b, c, d, e⟩, k => ⟨(k 93 _ (Or.inl rfl) (by simp)).trans a, (k 94 _ (Or.inr rfl) (by simp)).trans b, c, d, e.cong fun p j hp hj => k p j hp (by simp; omega)⟩
/-- how many of it are put down yet -/
def wtP : List (Nat × Nat) → Nat
  | [] => 0
  | x :: P => wtP P + (if x.1 < 29 then 1 else 0)
theorem wtP_le : ∀ P, wtP P ≤ P.length
  | [] => Nat.le_refl 0
  | x :: P => by
    have := wtP_le P
    rw [wtP, List.length_cons]
    split <;> omega
def PE (p j : Nat) : Bool := decide (p = 91 ∨ p = 92 ∨ p = 93 ∨ p = 94 ∨ p = 80 ∧ (14 ≤ j ∧ j ≤ 19 ∨ j = 23 ∨ j = 26 ∨ j = 29 ∨ j = 30))
theorem PE_o {p j : Nat} (h : p = 91 ∨ p = 92 ∨ p = 93 ∨ p = 94 ∨ p = 80 ∧ (14 ≤ j ∧ j ≤ 19 ∨ j = 23 ∨ j = 26 ∨ j = 29 ∨ j = 30)) : PE p j = true := decide_eq_true h
theorem PN_E (p j : Nat) (h : PN p j = true) : PE p j = true := by
  have h := of_decide_eq_true h
  exact PE_o (by omega)
/-- what it stands at -/
def MS (h : AH) (b : Nat → Nat) (t n : Nat) (ord : Bool) (i lv c o : Nat) (P : List (Nat × Nat)) : Prop := (Cur h b t i ∧ TkN (tkK b t) n ∧ i ≤ n) ∧ h.2.1 80 19 = 0 ∧ h.2.1 80 20 = bI ord ∧ (h.2.1 80 26 = nI lv ∧ lv ≤ 50) ∧ h.2.1 80 23 = nI c ∧ (h.2.1 80 29 = nI P.length ∧ Pl h P) ∧ h.2.1 80 30 = nI o ∧ c + wtP P ≤ i ∧ P.length ≤ i ∧ o ≤ 8 ∧ CnS h
theorem CnS.e {h h' : AH} {P : Nat → Nat → Bool} (k : CnS h) (e : Eqv P h h') (hP : ∀ p j, p = 95 ∨ p = 96 ∨ p = 97 ∨ p = 107 → P p j = false) : CnS h' := fun p hp => (funext fun j => e.l p j (hP p j hp)).trans (k p hp)
/-- it failed at a token -/
def Bad (h : AH) (b : Nat → Nat) (t j : Nat) : Prop := h.2.1 80 19 = 1 ∧ h.2.1 80 18 = nI (stT b t j) ∧ ∃ c P, h.2.1 80 23 = nI c ∧ h.2.1 80 29 = nI P.length ∧ Pl h P ∧ c + wtP P ≤ 400 ∧ P.length ≤ 400
theorem MS.n4 {h : AH} {b : Nat → Nat} {t n i lv c o : Nat} {ord : Bool} {P : List (Nat × Nat)} (k : MS h b t n ord i lv c o P) : i ≤ 400 := by
  have := k.1.2.1.1
  have := k.1.2.2
  omega
theorem MS.next {h : AH} {b : Nat → Nat} {t n i lv c o : Nat} {ord : Bool} {P : List (Nat × Nat)} (k : MS h b t n ord i lv c o P) (hi : tkK b t i ≠ 285) : ∃ h', f_X11_next S_1 80 h = some ((), h') ∧ Eqv PN h h' ∧ MS h' b t n ord (i + 1) lv c o P := by
  obtain ⟨⟨a1, a2, a3⟩, a4, a5, ⟨a6, a7⟩, a8, ⟨a9, b1⟩, b2, b3, b4, b5⟩ := k
  obtain ⟨h', r, e, c'⟩ := a1.next hi
  have hl := a2.lt a3 hi
  exact ⟨h', r, e, ⟨c', a2, hl⟩, (e.i 80 19 rfl).trans a4, (e.i 80 20 rfl).trans a5, ⟨(e.i 80 26 rfl).trans a6, a7⟩, (e.i 80 23 rfl).trans a8, ⟨(e.i 80 29 rfl).trans a9, b1.cong fun p j hp _ => e.i p j (decide_eq_false (by omega))⟩, (e.i 80 30 rfl).trans b2, by omega, by omega, b5.1, b5.2.e e fun p j hp => decide_eq_false (by omega)⟩
theorem m_must1 {h : AH} {b : Nat → Nat} {t n i lv c o : Nat} {ord : Bool} {P : List (Nat × Nat)} (k : MS h b t n ord i lv c o P) (hi : tkK b t i ≠ 285) : ∃ h', f_X11_must S_1 80 1 h = some ((), h') ∧ Eqv PN h h' ∧ MS h' b t n ord (i + 1) lv c o P := by
  obtain ⟨h', r, e, m⟩ := k.next hi
  refine ⟨h', ?_, e, m⟩
  unfold f_X11_must
  rw [bs_ (gi80 h 19), k.2.1, if_pos rfl, if_neg (by decide), bs_ (gi80 h 19), k.2.1, if_pos rfl, bs_ (ck_80 h), bs_ r]
theorem m_must0 {h : AH} {b : Nat → Nat} {t n i lv c o : Nat} {ord : Bool} {P : List (Nat × Nat)} (k : MS h b t n ord i lv c o P) : ∃ h', f_X11_must S_1 80 0 h = some ((), h') ∧ Eqv PE h h' ∧ Bad h' b t i := by
  have n4 := k.n4
  obtain ⟨⟨a1, a2, a3⟩, a4, a5, ⟨a6, a7⟩, a8, ⟨a9, b1⟩, b2, b3, b4, b5⟩ := k
  refine ⟨stI (stI h 80 19 1) 80 18 (nI (stT b t i)), ?_, ((Eqv.refl h).si (PE_o (by omega))).si (PE_o (by omega)), ?_, stI_s _ _ _ _, c, P, ?_, ?_, ?_, by omega, by omega⟩
  · unfold f_X11_must
    rw [bs_ (gi80 h 19), a4, if_pos rfl, if_pos rfl, bs_ (show pZ S_1 h 80 11 19 (1 : Int32) = some (stI h 80 19 1) from rfl), bs_ (gi80 _ 14), show (stI h 80 19 1).2.1 80 14 = nI (stT b t i) from (ri_k (by decide)).trans a1.2.1, bs_ (pi80 _ 18 _), bs_ (gi80 _ 19), show (stI (stI h 80 19 1) 80 18 (nI (stT b t i))).2.1 80 19 = 1 from (ri_k (by decide)).trans (stI_s _ _ _ _), if_neg (by decide)]
  · exact (ri_k (by decide)).trans (stI_s _ _ _ _)
  · exact (ri_k (by decide)).trans ((ri_k (by decide)).trans a8)
  · exact (ri_k (by decide)).trans ((ri_k (by decide)).trans a9)
  · exact b1.cong fun p j hp _ => (ri_p (by omega)).trans (ri_p (by omega))
theorem m_push {h : AH} {z : Nat} (e : h.2.1 80 29 = nI z) (hz : z < 400) (x y : Int32) : f_X11_push S_1 80 x y h = some ((), stI (stI (stI h 93 z x) 94 z y) 80 29 (nI (z + 1))) := by
  unfold f_X11_push
  rw [bs_ (yr_80_27 h), bs_ (gi80 h 29), e, bs_ (si_93 h _ hz)]
  generalize eh1 : stI h 93 z x = h1
  have e1 : h1.2.1 80 29 = nI z := by rw [← eh1, ri_p (by decide)]; exact e
  rw [bs_ (yr_80_28 h1), bs_ (gi80 h1 29), e1, bs_ (si_94 h1 _ hz)]
  generalize eh2 : stI h1 94 z y = h2
  have e2 : h2.2.1 80 29 = nI z := by rw [← eh2, ri_p (by decide)]; exact e1
  rw [bs_ (gi80 h2 29), e2, nI_1, bs_ (pi80 h2 29 _)]
theorem m_emit {h : AH} {c : Nat} (e : h.2.1 80 23 = nI c) (hc : c < 400) (x y : Int32) : f_X11_emit S_1 80 x y h = some ((), stI (stI (stI h 91 c x) 92 c y) 80 23 (nI (c + 1))) := by
  unfold f_X11_emit
  rw [bs_ (yr_80_24 h), bs_ (gi80 h 23), e, bs_ (si_91 h _ hc)]
  generalize eh1 : stI h 91 c x = h1
  have e1 : h1.2.1 80 23 = nI c := by rw [← eh1, ri_p (by decide)]; exact e
  rw [bs_ (yr_80_25 h1), bs_ (gi80 h1 23), e1, bs_ (si_92 h1 _ hc)]
  generalize eh2 : stI h1 92 c y = h2
  have e2 : h2.2.1 80 23 = nI c := by rw [← eh2, ri_p (by decide)]; exact e1
  rw [bs_ (gi80 h2 23), e2, nI_1, bs_ (pi80 h2 23 _)]
theorem Pl.push {h h' : AH} {P : List (Nat × Nat)} {x y : Nat} (k : Pl h P) (hx : x < 33) (hy : y < 400) (e : h' = stI (stI (stI h 93 P.length (nI x)) 94 P.length (nI y)) 80 29 (nI (P.length + 1))) : Pl h' ((x, y) :: P) := by
  refine ⟨?_, ?_, hx, hy, k.cong fun p j hp hj => ?_⟩
  · rw [e, ri_p (by decide), ri_p (by decide), stI_s]
  · rw [e, ri_p (by decide), stI_s]
  · rcases hp with rfl | rfl
    · rw [e, ri_p (by decide), ri_p (by decide), ri_k (by omega)]
    · rw [e, ri_p (by decide), ri_k (by omega), ri_p (by decide)]
def bnO (x : Nat) : Nat := if 31 ≤ x then 0 else if x = 30 then 1 else if x = 29 then 2 else if x = 28 then 3 else if 25 ≤ x then 4 else if 22 ≤ x then 6 else 5
theorem m_binds (S : SH) (h : AH) : ∀ x, x < 33 → f_X11_binds S (nI x) h = some (nI (bnO x), h) := by
  intro x hx
  have e : ∀ x, x < 33 → ∀ A : Int32 → Option (Int32 × AH), (if nI x < (31 : Int32) then (if nI x = 30 then A 1 else if nI x = 29 then A 2 else if nI x = 28 then A 3 else if nI x < 25 then (if nI x < 22 then A 5 else A 6) else A 4) else A 0) = A (nI (bnO x)) := by
    intro x hx A
    have : ∀ x, x < 33 → (if nI x < (31 : Int32) then (if nI x = 30 then (1 : Int32) else if nI x = 29 then 2 else if nI x = 28 then 3 else if nI x < 25 then (if nI x < 22 then 5 else 6) else 4) else 0) = nI (bnO x) := by decide
    rw [← this x hx]
    repeat' split
    all_goals rfl
  exact e x hx fun v => some (v, h)
/-! settling -/
theorem settle_eq (h : AH) (x : Int32) : f_X11_settle S_1 80 x h = f_X11_settle_l0 S_1 (FU + 1) 80 x h := by
  have idb : ∀ X : Option (Unit × AH), (X.bind fun z => match z with | ((), g) => some ((), g)) = X := fun X => by
    rcases X with _ | ⟨⟨⟩, g⟩ <;> rfl
  rw [f_X11_settle_l0]
  unfold f_X11_settle f_X11_settle_l0b f_X11_settle_j63
  simp only [idb]
theorem set_0 {h : AH} {F : Nat} {x : Int32} (e : h.2.1 80 29 = nI 0) : f_X11_settle_l0 S_1 (F + 1) 80 x h = some ((), h) := by
  rw [f_X11_settle_l0]
  unfold f_X11_settle_l0b
  rw [bs_ (gi80 h 29), e, if_pos (by decide)]
theorem set_no {h : AH} {F : Nat} {x : Nat × Nat} {P : List (Nat × Nat)} {l : Nat} (e : h.2.1 80 29 = nI (P.length + 1)) (k : Pl h (x :: P)) (hP : P.length < 400) (hl : l < 100) (hb : bnO x.1 < l) : f_X11_settle_l0 S_1 (F + 1) 80 (nI l) h = some ((), h) := by
  obtain ⟨a, b, c, d, _⟩ := k
  rw [f_X11_settle_l0]
  unfold f_X11_settle_l0b
  rw [bs_ (gi80 h 29), e, if_neg (by rw [show (0 : Int32) = nI 0 from rfl, nn_le (by omega) (by decide)]; omega), bs_ (yr_80_27 h), bs_ (gi80 h 29), e, nI_pre, bs_ (ai_93 h (by omega)), a, bs_ (m_binds S_1 h x.1 c)]
  dsimp only
  have b7 : bnO x.1 < 7 := by unfold bnO; repeat' split
                              all_goals omega
  rw [if_pos (by rw [nn_lt (by omega) (by omega)]; exact hb)]
/-- one is settled: put down -/
theorem set_op {h : AH} {F : Nat} {x : Nat × Nat} {P : List (Nat × Nat)} {l c : Nat} (e : h.2.1 80 29 = nI (P.length + 1)) (k : Pl h (x :: P)) (hP : P.length < 400) (hl : l < 100) (hb : l ≤ bnO x.1) (hx : x.1 < 29) (ec : h.2.1 80 23 = nI c) (hc : c < 400) : ∃ h', f_X11_settle_l0 S_1 (F + 1) 80 (nI l) h = f_X11_settle_l0 S_1 F 80 (nI l) h' ∧ h' = stI (stI (stI (stI h 80 29 (nI P.length)) 91 c (nI x.1)) 92 c 0) 80 23 (nI (c + 1)) := by
  obtain ⟨a, b, c', d, _⟩ := k
  refine ⟨_, ?_, rfl⟩
  have b7 : bnO x.1 < 7 := by unfold bnO; repeat' split
                              all_goals omega
  rw [f_X11_settle_l0]
  unfold f_X11_settle_l0b
  rw [bs_ (gi80 h 29), e, if_neg (by rw [show (0 : Int32) = nI 0 from rfl, nn_le (by omega) (by decide)]; omega), bs_ (yr_80_27 h), bs_ (gi80 h 29), e, nI_pre, bs_ (ai_93 h (by omega)), a, bs_ (m_binds S_1 h x.1 c')]
  dsimp only
  rw [if_neg (by rw [nn_lt (by omega) (by omega)]; omega), bs_ (gi80 h 29), e, nI_pre, bs_ (pi80 h 29 _)]
  generalize eh1 : stI h 80 29 (nI P.length) = h1
  have e1 : h1.2.1 80 29 = nI P.length := by rw [← eh1, stI_s]
  have a1 : h1.2.1 93 P.length = nI x.1 := by rw [← eh1, ri_p (by decide)]; exact a
  have c1 : h1.2.1 80 23 = nI c := by rw [← eh1, ri_k (by decide)]; exact ec
  rw [bs_ (yr_80_27 h1), bs_ (gi80 h1 29), e1, bs_ (ai_93 h1 (by omega)), a1, if_neg (show ¬ nI x.1 = (29 : Int32) by rw [show (29 : Int32) = nI 29 from rfl, nn_eq (by omega) (by decide)]; omega), bs_ (yr_80_27 h1), bs_ (gi80 h1 29), e1, bs_ (ai_93 h1 (by omega)), a1, if_neg (show ¬ nI x.1 = (30 : Int32) by rw [show (30 : Int32) = nI 30 from rfl, nn_eq (by omega) (by decide)]; omega), bs_ (yr_80_27 h1), bs_ (gi80 h1 29), e1, bs_ (ai_93 h1 (by omega)), a1, bs_ (ck_80 h1), bs_ (m_emit c1 hc _ _)]
/-- one is settled: it leaps to here -/
theorem set_j {h : AH} {F : Nat} {x : Nat × Nat} {P : List (Nat × Nat)} {l c : Nat} (e : h.2.1 80 29 = nI (P.length + 1)) (k : Pl h (x :: P)) (hP : P.length < 400) (hl : l < 100) (hb : l ≤ bnO x.1) (hx : x.1 = 29 ∨ x.1 = 30) (ec : h.2.1 80 23 = nI c) : ∃ h', f_X11_settle_l0 S_1 (F + 1) 80 (nI l) h = f_X11_settle_l0 S_1 F 80 (nI l) h' ∧ h' = stI (stI h 80 29 (nI P.length)) 92 x.2 (nI c) := by
  obtain ⟨a, b, c', d, _⟩ := k
  refine ⟨_, ?_, rfl⟩
  have b7 : bnO x.1 < 7 := by unfold bnO; repeat' split
                              all_goals omega
  rw [f_X11_settle_l0]
  unfold f_X11_settle_l0b
  rw [bs_ (gi80 h 29), e, if_neg (by rw [show (0 : Int32) = nI 0 from rfl, nn_le (by omega) (by decide)]; omega), bs_ (yr_80_27 h), bs_ (gi80 h 29), e, nI_pre, bs_ (ai_93 h (by omega)), a, bs_ (m_binds S_1 h x.1 c')]
  dsimp only
  rw [if_neg (by rw [nn_lt (by omega) (by omega)]; omega), bs_ (gi80 h 29), e, nI_pre, bs_ (pi80 h 29 _)]
  generalize eh1 : stI h 80 29 (nI P.length) = h1
  have e1 : h1.2.1 80 29 = nI P.length := by rw [← eh1, stI_s]
  have a1 : h1.2.1 93 P.length = nI x.1 := by rw [← eh1, ri_p (by decide)]; exact a
  have b1 : h1.2.1 94 P.length = nI x.2 := by rw [← eh1, ri_p (by decide)]; exact b
  have c1 : h1.2.1 80 23 = nI c := by rw [← eh1, ri_k (by decide)]; exact ec
  rw [bs_ (yr_80_27 h1), bs_ (gi80 h1 29), e1, bs_ (ai_93 h1 (by omega)), a1]
  rcases hx with hx | hx
  · rw [if_pos (show nI x.1 = (29 : Int32) by rw [hx]; rfl), bs_ (yr_80_25 h1), bs_ (yr_80_28 h1), bs_ (gi80 h1 29), e1, bs_ (ai_94 h1 (by omega)), b1, bs_ (gi80 h1 23), c1, bs_ (si_92 h1 _ d)]
  · rw [if_neg (show ¬ nI x.1 = (29 : Int32) by rw [hx]; decide), bs_ (yr_80_27 h1), bs_ (gi80 h1 29), e1, bs_ (ai_93 h1 (by omega)), a1, if_pos (show nI x.1 = (30 : Int32) by rw [hx]; rfl), bs_ (yr_80_25 h1), bs_ (yr_80_28 h1), bs_ (gi80 h1 29), e1, bs_ (ai_94 h1 (by omega)), b1, bs_ (gi80 h1 23), c1, bs_ (si_92 h1 _ d)]
def PSe (p j : Nat) : Bool := decide (p = 91 ∨ p = 92 ∨ p = 80 ∧ (j = 23 ∨ j = 29))
theorem PSe_E (p j : Nat) (h : PSe p j = true) : PE p j = true := by
  have h := of_decide_eq_true h
  exact PE_o (by omega)
theorem PSe_o {p j : Nat} (h : p = 91 ∨ p = 92 ∨ p = 80 ∧ (j = 23 ∨ j = 29)) : PSe p j = true := decide_eq_true h
/-- it always ends -/
theorem set_all (l : Nat) (hl : 1 ≤ l ∧ l < 100) : ∀ (P : List (Nat × Nat)) (F c : Nat) (h : AH), P.length < F → h.2.1 80 29 = nI P.length → Pl h P → h.2.1 80 23 = nI c → c + wtP P ≤ 400 → P.length ≤ 400 → ∃ h', f_X11_settle_l0 S_1 F 80 (nI l) h = some ((), h') ∧ Eqv PSe h h'
  | [], F, c, h, hF, e, _, _, _, _ => by
    obtain ⟨F, rfl⟩ : ∃ x, F = x + 1 := ⟨F - 1, by omega⟩
    exact ⟨h, set_0 e, Eqv.refl h⟩
  | x :: P, F, c, h, hF, e, k, ec, hc, hP => by
    obtain ⟨F, rfl⟩ : ∃ x, F = x + 1 := ⟨F - 1, by omega⟩
    rw [List.length_cons] at hF hP e
    rw [wtP] at hc
    obtain ⟨a, b, c', d, k'⟩ := id k
    by_cases hb : bnO x.1 < l
    · exact ⟨h, set_no e k (by omega) hl.2 hb, Eqv.refl h⟩
    · have x30 : x.1 ≤ 30 := by
        unfold bnO at hb
        split at hb <;> omega
      by_cases hx : x.1 < 29
      · rw [if_pos hx] at hc
        obtain ⟨h1, r, e1⟩ := set_op (F := F) e k (by omega) hl.2 (by omega) hx ec (by omega)
        obtain ⟨h2, r2, e2⟩ := set_all l hl P F (c + 1) h1 (by omega) (by rw [e1, ri_k (by decide), ri_p (by decide), ri_p (by decide), stI_s]) (k'.cong fun p j hp _ => by rw [e1, ri_p (by omega), ri_p (by omega), ri_p (by omega), ri_p (by omega)]) (by rw [e1, stI_s]) (by omega) (by omega)
        refine ⟨h2, r.trans r2, Eqv.trans ?_ e2⟩
        rw [e1]
        exact ((((Eqv.refl h).si (PSe_o (by omega))).si (PSe_o (by omega))).si (PSe_o (by omega))).si (PSe_o (by omega))
      · obtain ⟨h1, r, e1⟩ := set_j (F := F) e k (by omega) hl.2 (by omega) (by omega) ec
        obtain ⟨h2, r2, e2⟩ := set_all l hl P F c h1 (by omega) (by rw [e1, ri_p (by decide), stI_s]) (k'.cong fun p j hp _ => by rw [e1, ri_p (by omega), ri_p (by omega)]) (by rw [e1, ri_p (by decide), ri_k (by decide)]; exact ec) (by omega) (by omega)
        refine ⟨h2, r.trans r2, Eqv.trans ?_ e2⟩
        rw [e1]
        exact ((Eqv.refl h).si (PSe_o (by omega))).si (PSe_o (by omega))
/-! the innermost bracket; whether it was compared -/
def inV : List (Nat × Nat) → Int32
  | [] => -1
  | x :: P => if 31 ≤ x.1 then nI x.1 else inV P
theorem fo_snoc {α : Type} (st : α → Nat → α) : ∀ m k a, fo st k (m + 1) a = st (fo st k m a) (k + m)
  | 0, k, a => rfl
  | m + 1, k, a => by
    show fo st (k + 1) (m + 1) (st a k) = _
    rw [fo_snoc st m (k + 1) (st a k), show k + 1 + m = k + (m + 1) by omega]
    rfl
theorem m_inner {h : AH} {P : List (Nat × Nat)} (e : h.2.1 80 29 = nI P.length) (k : Pl h P) (hP : P.length ≤ 400) : f_X11_inner S_1 80 h = some (inV P, h) := by
  have g : ∀ (m i fu : Nat) (s : Int32), i + m = P.length → m < fu → f_X11_inner_l4 S_1 fu 80 s (nI i) h = some (fo (fun s j => if h.2.1 93 j < 31 then s else h.2.1 93 j) i m s, h) := by
    intro m
    induction m with
    | zero =>
      intro i fu s hi hf
      obtain ⟨fu, rfl⟩ : ∃ x, fu = x + 1 := ⟨fu - 1, by omega⟩
      rw [f_X11_inner_l4]
      unfold f_X11_inner_l4b
      rw [bs_ (gi80 h 29), e, if_pos (by rw [nn_le (by omega) (by omega)]; omega)]
      rfl
    | succ m ih =>
      intro i fu s hi hf
      obtain ⟨fu, rfl⟩ : ∃ x, fu = x + 1 := ⟨fu - 1, by omega⟩
      rw [f_X11_inner_l4]
      unfold f_X11_inner_l4b
      rw [bs_ (gi80 h 29), e, if_neg (by rw [nn_le (by omega) (by omega)]; omega), bs_ (yr_80_27 h), bs_ (ai_93 h (by omega))]
      show _ = some (fo _ (i + 1) m (if h.2.1 93 i < 31 then s else h.2.1 93 i), h)
      by_cases c : h.2.1 93 i < 31
      · rw [if_pos c, if_pos c, lt_e, nI_1]
        exact ih (i + 1) fu _ (by omega) (by omega)
      · rw [if_neg c, if_neg c, bs_ (yr_80_27 h), bs_ (ai_93 h (by omega)), lt_e, nI_1]
        exact ih (i + 1) fu _ (by omega) (by omega)
  have v : ∀ P : List (Nat × Nat), Pl h P → fo (fun s j => if h.2.1 93 j < 31 then s else h.2.1 93 j) 0 P.length (-1) = inV P := by
    intro P
    induction P with
    | nil => exact fun _ => rfl
    | cons x P ih =>
      rintro ⟨a, b, c, d, k⟩
      rw [List.length_cons, fo_snoc, ih k, Nat.zero_add, a, inV]
      by_cases c2 : 31 ≤ x.1
      · rw [if_pos c2, if_neg (show ¬ nI x.1 < (31 : Int32) by rw [show (31 : Int32) = nI 31 from rfl, nn_lt (by omega) (by decide)]; omega)]
      · rw [if_neg c2, if_pos (show nI x.1 < (31 : Int32) by rw [show (31 : Int32) = nI 31 from rfl, nn_lt (by omega) (by decide)]; omega)]
  unfold f_X11_inner
  rw [bs_ (show f_X11_inner_l4 S_1 FU 80 (-1 : Int32) (0 : Int32) h = _ from g P.length 0 FU (-1) (by omega) (by unfold FU; omega)), v P k]
def drA : List (Nat × Nat) → List (Nat × Nat)
  | [] => []
  | x :: P => if 20 ≤ x.1 ∧ x.1 ≤ 24 then drA P else x :: P
def cmpH (P : List (Nat × Nat)) : Bool := match drA P with
  | [] => false
  | x :: _ => decide (25 ≤ x.1 ∧ x.1 ≤ 27)
theorem in_20 (h : AH) {x : Nat} (hx : x < 33) : f_X11_in S_1 (Int32.toInt64 (nI x)) (20 : Int64) (24 : Int64) h = some (bI (decide (20 ≤ x ∧ x ≤ 24)), h) := by
  rw [show (20 : Int64) = Int32.toInt64 (nI 20) from rfl, show (24 : Int64) = Int32.toInt64 (nI 24) from rfl, x_in_I]
  simp only [nn_le (show 20 < 2 ^ 31 by decide) (show x < 2 ^ 31 by omega), nn_le (show x < 2 ^ 31 by omega) (show 24 < 2 ^ 31 by decide)]
theorem in_25 (h : AH) {x : Nat} (hx : x < 33) : f_X11_in S_1 (Int32.toInt64 (nI x)) (25 : Int64) (27 : Int64) h = some (bI (decide (25 ≤ x ∧ x ≤ 27)), h) := by
  rw [show (25 : Int64) = Int32.toInt64 (nI 25) from rfl, show (27 : Int64) = Int32.toInt64 (nI 27) from rfl, x_in_I]
  simp only [nn_le (show 25 < 2 ^ 31 by decide) (show x < 2 ^ 31 by omega), nn_le (show x < 2 ^ 31 by omega) (show 27 < 2 ^ 31 by decide)]
theorem m_isCompared {h : AH} {P : List (Nat × Nat)} (e : h.2.1 80 29 = nI P.length) (k : Pl h P) (hP : P.length ≤ 400) : f_X11_isCompared S_1 80 h = some (bI (cmpH P), h) := by
  have g : ∀ (P : List (Nat × Nat)) (fu : Nat), Pl h P → P.length ≤ 400 → P.length < fu → f_X11_isCompared_l7 S_1 fu 80 (nI P.length - 1) h = some ((80, nI (drA P).length - 1), h) := by
    intro P
    induction P with
    | nil =>
      intro fu _ _ hf
      obtain ⟨fu, rfl⟩ : ∃ x, fu = x + 1 := ⟨fu - 1, by omega⟩
      rw [f_X11_isCompared_l7]
      unfold f_X11_isCompared_l7b
      rw [if_pos (by decide)]
      rfl
    | cons x P ih =>
      rintro fu ⟨a, b, c, d, k⟩ hP hf
      obtain ⟨fu, rfl⟩ : ∃ x, fu = x + 1 := ⟨fu - 1, by omega⟩
      rw [List.length_cons] at hP hf ⊢
      rw [f_X11_isCompared_l7]
      unfold f_X11_isCompared_l7b
      rw [nI_pre, if_neg (by rw [z_lt (by omega)]; exact id), bs_ (yr_80_27 h), bs_ (ai_93 h (by omega)), a, bs_ (in_20 h c), drA]
      dsimp only
      by_cases c2 : 20 ≤ x.1 ∧ x.1 ≤ 24
      · rw [decide_eq_true c2, if_neg (show ¬ bI true = 0 by decide), if_pos c2, lt_e, show nI P.length + (-1 : Int32) = nI P.length - 1 by rw [Int32.sub_eq_add_neg]]
        exact ih fu k (by omega) (by omega)
      · rw [decide_eq_false c2, if_pos (show bI false = 0 from rfl), if_neg c2, List.length_cons, nI_pre]
  unfold f_X11_isCompared cmpH
  rw [bs_ (gi80 h 29), e, lt_e, bs_ (g P FU k hP (by unfold FU; omega))]
  dsimp only
  unfold f_X11_isCompared_j36
  have v : ∀ P : List (Nat × Nat), Pl h P → Pl h (drA P) ∧ (drA P).length ≤ P.length := by
    intro P
    induction P with
    | nil => exact fun _ => ⟨trivial, Nat.le_refl _⟩
    | cons x P ih =>
      intro k
      rw [drA]
      split
      · obtain ⟨a, b⟩ := ih k.2.2.2.2
        exact ⟨a, by rw [List.length_cons]; omega⟩
      · exact ⟨k, Nat.le_refl _⟩
  obtain ⟨v1, v2⟩ := v P k
  revert v1 v2
  rcases drA P with _ | ⟨x, Q⟩
  · intro _ _
    rw [if_pos (by decide)]
    rfl
  · rintro ⟨a, b, c, d, k⟩ v2
    rw [List.length_cons] at v2 ⊢
    rw [nI_pre, if_neg (by rw [z_lt (by omega)]; exact id), bs_ (yr_80_27 h), bs_ (ai_93 h (by omega)), a, bs_ (in_25 h c)]
    dsimp only
    by_cases c2 : 25 ≤ x.1 ∧ x.1 ≤ 27
    · rw [decide_eq_true c2, if_neg (show ¬ bI true = 0 by decide)]
      rfl
    · rw [decide_eq_false c2, if_pos (show bI false = 0 from rfl)]
      rfl
