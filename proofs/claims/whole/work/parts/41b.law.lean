/-! reading: the other side begins and ends -/
def PFb (p j : Nat) : Bool := decide (90 ≤ p ∧ p ≤ 94 ∨ p = 108 ∨ p = 80 ∧ (13 ≤ j ∧ j ≤ 21 ∨ j = 23 ∨ j = 26 ∨ j = 29 ∨ j = 30))
theorem PFb_o {p j : Nat} (h : 90 ≤ p ∧ p ≤ 94 ∨ p = 108 ∨ p = 80 ∧ (13 ≤ j ∧ j ≤ 21 ∨ j = 23 ∨ j = 26 ∨ j = 29 ∨ j = 30)) : PFb p j = true := decide_eq_true h
theorem PF_b (p j : Nat) (h : PFr p j = true) : PFb p j = true := by
  have h := of_decide_eq_true h
  exact PFb_o (by omega)
theorem PE_b (p j : Nat) (h : PE p j = true) : PFb p j = true := PF_b p j (PE_F p j h)
theorem PN_b (p j : Nat) (h : PN p j = true) : PFb p j = true := PE_b p j (PN_E p j h)
/-- longs that stay -/
def J20 (h h' : AH) : Prop := h'.2.2.1 80 20 = h.2.2.1 80 20
theorem J20.of {P : Nat → Nat → Bool} {h h' : AH} (e : Eqv P h h') (hP : P 80 20 = false) : J20 h h' := e.l 80 20 hP
theorem J20.trans {h h1 h2 : AH} (a : J20 h h1) (b : J20 h1 h2) : J20 h h2 := Eq.trans b a
theorem J20.si (h : AH) (p k : Nat) (v : Int32) : J20 h (stI h p k v) := rfl
theorem m_begin {h : AH} {b : Nat → Nat} {t n : Nat} {ord : Bool} (tm : Tm h b t) (tkn : TkN (tkK b t) n) (cn : CnS h) : ∃ h', f_X11_beginText S_1 80 (bI ord) h = some ((), h') ∧ Eqv PFb h h' ∧ J20 h h' ∧ MB h' b t n ord 0 0 0 ∧ h'.2.1 80 21 = nI 0 ∧ h'.2.1 80 18 = -1 ∧ h'.2.1 80 13 = h.2.1 80 13 := by
  obtain ⟨h1, hh1⟩ : ∃ h1, h1 = stI (stI (stI (stI h 80 20 (bI ord)) 80 15 0) 80 19 0) 80 18 (-1) := ⟨_, rfl⟩
  have o1 : ∀ p j, ¬ (p = 80 ∧ (j = 15 ∨ 18 ≤ j ∧ j ≤ 20)) → h1.2.1 p j = h.2.1 p j := fun p j hj => by
    rw [hh1]
    by_cases e : p = 80
    · subst e
      rw [ri_k (by omega), ri_k (by omega), ri_k (by omega), ri_k (by omega)]
    · rw [ri_p e, ri_p e, ri_p e, ri_p e]
  have tm1 : Tm h1 b t := ⟨(o1 _ _ (by omega)).trans tm.1, tm.2.1, fun j hj => ⟨(o1 _ _ (by omega)).trans (tm.2.2 j hj).1, (tm.2.2 j hj).2⟩⟩
  obtain ⟨h2, r2, e2, t2⟩ := m_next tm1 (Nat.zero_le t) (show h1.2.1 80 15 = nI 0 by rw [hh1, ri_k (by decide), ri_k (by decide), stI_s]; rfl)
  have tm2 := tm1.n e2
  obtain ⟨h3, hh3⟩ : ∃ h3, h3 = stI (stI (stI h2 80 21 0) 80 23 0) 80 26 0 := ⟨_, rfl⟩
  have o3 : ∀ p j, ¬ (p = 80 ∧ (j = 21 ∨ j = 23 ∨ j = 26)) → h3.2.1 p j = h2.2.1 p j := fun p j hj => by
    rw [hh3]
    by_cases e : p = 80
    · subst e
      rw [ri_k (by omega), ri_k (by omega), ri_k (by omega)]
    · rw [ri_p e, ri_p e, ri_p e]
  have cur : Cur h3 b t 0 := by
    obtain ⟨v14, v15, v16, v17⟩ := t2
    exact ⟨⟨(o3 _ _ (by omega)).trans tm2.1, tm2.2.1, fun j hj => ⟨(o3 _ _ (by omega)).trans (tm2.2.2 j hj).1, (tm2.2.2 j hj).2⟩⟩, (o3 _ _ (by omega)).trans v14, (o3 _ _ (by omega)).trans v15, (o3 _ _ (by omega)).trans v16, by rw [hh3]; exact v17⟩
  have E1 : Eqv PFb h h1 := by
    rw [hh1]
    exact ((((Eqv.refl h).si (PFb_o (by omega))).si (PFb_o (by omega))).si (PFb_o (by omega))).si (PFb_o (by omega))
  have E : Eqv PFb h h3 := by
    rw [hh3]
    exact (((E1.trans (e2.mono PN_b)).si (PFb_o (by omega))).si (PFb_o (by omega))).si (PFb_o (by omega))
  have J : J20 h h3 := by
    have a : J20 h h1 := by rw [hh1]; rfl
    have c : J20 h2 h3 := by rw [hh3]; rfl
    exact (a.trans (J20.of e2 rfl)).trans c
  have w : ∀ j, 13 ≤ j → j ≤ 20 → ¬ (14 ≤ j ∧ j ≤ 17) → h3.2.1 80 j = h1.2.1 80 j := fun j h1 h2 h3 => (o3 _ _ (by omega)).trans (e2.i 80 j (decide_eq_false (by omega)))
  have beg : f_X11_begin S_1 80 (stI h 80 20 (bI ord)) = some ((), h2) := by
    unfold f_X11_begin
    rw [bs_ (pi80 _ 15 _), bs_ (show pZ S_1 (stI (stI h 80 20 (bI ord)) 80 15 0) 80 11 19 (0 : Int32) = some (stI (stI (stI h 80 20 (bI ord)) 80 15 0) 80 19 0) from rfl), bs_ (pi80 _ 18 _), ← hh1, bs_ (ck_80 h1), bs_ r2]
  refine ⟨h3, ?_, E, J, ⟨⟨cur, tkn, Nat.zero_le n⟩, ?_, ?_, ⟨?_, Nat.zero_le _⟩, ?_, Nat.le_refl 0, cn.e E fun p j hp => decide_eq_false (by omega)⟩, ?_, ?_, ?_⟩
  · unfold f_X11_beginText
    rw [bs_ (show pZ S_1 h 80 11 20 (bI ord) = some (stI h 80 20 (bI ord)) by cases ord <;> rfl), bs_ (ck_80 _), bs_ beg]
    dsimp only
    rw [bs_ (pi80 _ 21 _), bs_ (pi80 _ 23 _), bs_ (pi80 _ 26 _), ← hh3]
  · rw [w 19 (by decide) (by decide) (by decide), hh1, ri_k (by decide), stI_s]
  · rw [w 20 (by decide) (by decide) (by decide), hh1, ri_k (by decide), ri_k (by decide), ri_k (by decide), stI_s]
  · rw [hh3, stI_s]; rfl
  · rw [hh3, ri_k (by decide), stI_s]; rfl
  · rw [hh3, ri_k (by decide), ri_k (by decide), stI_s]; rfl
  · rw [w 18 (by decide) (by decide) (by decide), hh1, stI_s]
  · rw [w 13 (by decide) (by decide) (by decide)]
    exact o1 _ _ (by omega)
theorem m_end1 {h : AH} (e : h.2.1 80 19 = 1) : f_X11_endText S_1 80 h = some ((), stI (stI h 80 20 0) 80 13 0) := by
  unfold f_X11_endText
  rw [bs_ (gi80 h 19), e, if_neg (by decide), bs_ (show pZ S_1 h 80 11 20 (0 : Int32) = some (stI h 80 20 0) from rfl), bs_ (pi80 _ 13 _)]
theorem m_end0 {h : AH} {b : Nat → Nat} {t n i lv c : Nat} {ord : Bool} (k : MB h b t n ord i lv c) (e : tkK b t i = 285) : f_X11_endText S_1 80 h = some ((), stI (stI h 80 20 0) 80 13 0) := by
  obtain ⟨d1, d2, d3, d4⟩ := m_digitsAt k.1.1
  unfold f_X11_endText
  rw [bs_ (gi80 h 19), k.2.1, if_pos rfl, bs_ (gi80 h 16), d2.mpr e, if_pos rfl, bs_ (show pZ S_1 h 80 11 20 (0 : Int32) = some (stI h 80 20 0) from rfl), bs_ (pi80 _ 13 _)]
theorem m_endB {h : AH} {b : Nat → Nat} {t n i lv c : Nat} {ord : Bool} (k : MB h b t n ord i lv c) (e : tkK b t i ≠ 285) : ∃ h1, f_X11_endText S_1 80 h = some ((), stI (stI h1 80 20 0) 80 13 0) ∧ Eqv PE h h1 ∧ BadE h1 b t i := by
  obtain ⟨d1, d2, d3, d4⟩ := m_digitsAt k.1.1
  obtain ⟨h1, r1, e1, b1⟩ := k.must0
  refine ⟨h1, ?_, e1, b1⟩
  unfold f_X11_endText
  rw [bs_ (gi80 h 19), k.2.1, if_pos rfl, bs_ (gi80 h 16), if_neg (fun z => e (d2.mp z)), bs_ (ck_80 h), bs_ r1]
  dsimp only
  rw [bs_ (show pZ S_1 h1 80 11 20 (0 : Int32) = some (stI h1 80 20 0) from rfl), bs_ (pi80 _ 13 _)]
/-- what stands behind a text that was read -/
def REd (h2 : AH) (b : Nat → Nat) (t : Nat) (Hs : AH → Nat → (Nat → Co) → Nat → Prop) (r : Nat ⊕ (Nat × (Nat → Co))) : Prop := match r with
  | .inl j => h2.2.1 80 19 = 1 ∧ h2.2.1 80 18 = nI (stT b t j)
  | .inr (m, f) => h2.2.1 80 19 = 0 ∧ h2.2.1 80 18 = -1 ∧ h2.2.1 80 21 = nI m ∧ m ≤ 12 ∧ ∃ c, h2.2.1 80 23 = nI c ∧ c ≤ 400 ∧ Hs h2 m f c
theorem st_end (h : AH) (p j : Nat) (e : ¬ (p = 80 ∧ (j = 20 ∨ j = 13))) : (stI (stI h 80 20 0) 80 13 0).2.1 p j = h.2.1 p j := by
  by_cases z : p = 80
  · subst z
    rw [ri_k (by omega), ri_k (by omega)]
  · rw [ri_p z, ri_p z]
/-- the law's text, from its start to its end -/
theorem m_lawRead {h : AH} {b : Nat → Nat} {t n : Nat} (tm : Tm h b t) (tkn : TkN (tkK b t) n) (cn : CnS h) : ∃ h2, (∀ G : Nat → AH → Option (Int32 × AH), ((f_X11_beginText S_1 80 (0 : Int32) h).bind fun z => match z with
    | (_, h_9) =>
    (ckO S_1 h_9 80 11).bind fun _ =>
    (f_X11_readLaw S_1 80 h_9).bind fun z => match z with
    | (_, h_12) =>
    (f_X11_law_l37 S_1 FU 80 h_12).bind fun z => match z with
    | (r0_15, h_14) =>
    (ckO S_1 h_14 r0_15 11).bind fun _ =>
    (f_X11_endText S_1 r0_15 h_14).bind fun z => G r0_15 z.2) = G 80 h2) ∧ Eqv PFb h h2 ∧ J20 h h2 ∧ h2.2.1 80 20 = 0 ∧ h2.2.1 80 13 = 0 ∧ REd h2 b t HdLs (textS (tkK b t) (tkU b t) false 12 0 noCo 0 0) := by
  obtain ⟨h1, r1, e1, j1, k1, v21, v18, v13⟩ := m_begin (ord := false) tm tkn cn
  have q := m_lawT 12 0 noCo 0 0 0 h1 FU rfl (by unfold FU; omega) k1 v21 (fun y hy => by omega)
  have fr : Fr18 h1 ((f_X11_readLaw S_1 80 h1).bind fun z => f_X11_law_l37 S_1 FU 80 z.2) := fr_b (fr_X11_readLaw _ _) fun v h1 => fr_X11_law_l37 _ _ _
  have A : ∀ (H : Nat × AH → Option (Int32 × AH)), ((f_X11_readLaw S_1 80 h1).bind fun z => match z with
      | (_, h_12) => (f_X11_law_l37 S_1 FU 80 h_12).bind H) = ((f_X11_readLaw S_1 80 h1).bind fun z => f_X11_law_l37 S_1 FU 80 z.2).bind H := fun H => by
    rcases f_X11_readLaw S_1 80 h1 with _ | ⟨u, g⟩ <;> rfl
  have B : ∀ (G : Nat → AH → Option (Int32 × AH)) (g g2 : AH), ((f_X11_readLaw S_1 80 h1).bind fun z => f_X11_law_l37 S_1 FU 80 z.2) = some (80, g) → f_X11_endText S_1 80 g = some ((), g2) → ((f_X11_beginText S_1 80 (0 : Int32) h).bind fun z => match z with
    | (_, h_9) =>
    (ckO S_1 h_9 80 11).bind fun _ =>
    (f_X11_readLaw S_1 80 h_9).bind fun z => match z with
    | (_, h_12) =>
    (f_X11_law_l37 S_1 FU 80 h_12).bind fun z => match z with
    | (r0_15, h_14) =>
    (ckO S_1 h_14 r0_15 11).bind fun _ =>
    (f_X11_endText S_1 r0_15 h_14).bind fun z => G r0_15 z.2) = G 80 g2 := fun G g g2 rr re => by
    rw [bs_ (show f_X11_beginText S_1 80 (0 : Int32) h = some ((), h1) from r1)]
    dsimp only
    rw [bs_ (ck_80 h1)]
    refine (A _).trans ?_
    rw [bs_ rr]
    dsimp only
    rw [bs_ (ck_80 g), bs_ re]
  have fin : ∀ g : AH, Eqv PFr h1 g → Eqv PFb h (stI (stI g 80 20 0) 80 13 0) ∧ J20 h (stI (stI g 80 20 0) 80 13 0) ∧ (stI (stI g 80 20 0) 80 13 0).2.1 80 20 = 0 ∧ (stI (stI g 80 20 0) 80 13 0).2.1 80 13 = 0 := fun g eg => by
    have jg : J20 g (stI (stI g 80 20 0) 80 13 0) := rfl
    refine ⟨((e1.trans (eg.mono PF_b)).si (PFb_o (by omega))).si (PFb_o (by omega)), (j1.trans (J20.of eg rfl)).trans jg, ?_, stI_s _ _ _ _⟩
    rw [ri_k (by decide), stI_s]
  revert q
  rcases textS (tkK b t) (tkU b t) false 12 0 noCo 0 0 with j | ⟨m, f⟩
  · rintro ⟨g, rr, eg, bd | ⟨lv, c, kg, c59, c285⟩⟩
    · obtain ⟨a1, a2, a3, a4⟩ := fin g eg
      exact ⟨_, fun G => B G g _ rr (m_end1 bd.1), a1, a2, a3, a4, (st_end _ _ _ (by omega)).trans bd.1, (st_end _ _ _ (by omega)).trans bd.2⟩
    · obtain ⟨g1, re, eg1, bd⟩ := m_endB kg c285
      obtain ⟨a1, a2, a3, a4⟩ := fin g1 (eg.trans (eg1.mono PE_F))
      exact ⟨_, fun G => B G g _ rr re, a1, a2, a3, a4, (st_end _ _ _ (by omega)).trans bd.1, (st_end _ _ _ (by omega)).trans bd.2⟩
  · rintro ⟨g, c, i', lv', rr, eg, kg, c285, g21, hm, hs⟩
    obtain ⟨a1, a2, a3, a4⟩ := fin g eg
    have n4 := kg.n4
    have f18 := fr _ _ rr kg.2.1
    refine ⟨_, fun G => B G g _ rr (m_end0 kg c285), a1, a2, a3, a4, (st_end _ _ _ (by omega)).trans kg.2.1, (st_end _ _ _ (by omega)).trans (f18.2.trans v18), (st_end _ _ _ (by omega)).trans g21, hm, c, (st_end _ _ _ (by omega)).trans kg.2.2.2.2.1, by omega, fun y hy => (hs y hy).cong (Nat.le_refl c) (fun j _ => ⟨st_end _ _ _ (by omega), st_end _ _ _ (by omega)⟩) fun j _ => st_end _ _ _ (by omega)⟩
theorem m_ordRead {h : AH} {b : Nat → Nat} {t n : Nat} (tm : Tm h b t) (tkn : TkN (tkK b t) n) (cn : CnS h) : ∃ h2, (∀ G : Nat → AH → Option (Int32 × AH), ((f_X11_beginText S_1 80 (1 : Int32) h).bind fun z => match z with
    | (_, h_9) =>
    (ckO S_1 h_9 80 11).bind fun _ =>
    (f_X11_readOrder S_1 80 h_9).bind fun z => match z with
    | (_, h_12) =>
    (f_X11_orders_l19 S_1 FU 80 h_12).bind fun z => match z with
    | (r0_15, h_14) =>
    (ckO S_1 h_14 r0_15 11).bind fun _ =>
    (f_X11_endText S_1 r0_15 h_14).bind fun z => G r0_15 z.2) = G 80 h2) ∧ Eqv PFb h h2 ∧ J20 h h2 ∧ h2.2.1 80 20 = 0 ∧ h2.2.1 80 13 = 0 ∧ REd h2 b t HdOs (textS (tkK b t) (tkU b t) true 12 0 noCo 0 0) := by
  obtain ⟨h1, r1, e1, j1, k1, v21, v18, v13⟩ := m_begin (ord := true) tm tkn cn
  have q := m_ordT 12 0 noCo 0 0 0 h1 FU rfl (by unfold FU; omega) k1 v21 (fun y hy => by omega)
  have fr : Fr18 h1 ((f_X11_readOrder S_1 80 h1).bind fun z => f_X11_orders_l19 S_1 FU 80 z.2) := fr_b (fr_X11_readOrder _ _) fun v h1 => fr_X11_orders_l19 _ _ _
  have A : ∀ (H : Nat × AH → Option (Int32 × AH)), ((f_X11_readOrder S_1 80 h1).bind fun z => match z with
      | (_, h_12) => (f_X11_orders_l19 S_1 FU 80 h_12).bind H) = ((f_X11_readOrder S_1 80 h1).bind fun z => f_X11_orders_l19 S_1 FU 80 z.2).bind H := fun H => by
    rcases f_X11_readOrder S_1 80 h1 with _ | ⟨u, g⟩ <;> rfl
  have B : ∀ (G : Nat → AH → Option (Int32 × AH)) (g g2 : AH), ((f_X11_readOrder S_1 80 h1).bind fun z => f_X11_orders_l19 S_1 FU 80 z.2) = some (80, g) → f_X11_endText S_1 80 g = some ((), g2) → ((f_X11_beginText S_1 80 (1 : Int32) h).bind fun z => match z with
    | (_, h_9) =>
    (ckO S_1 h_9 80 11).bind fun _ =>
    (f_X11_readOrder S_1 80 h_9).bind fun z => match z with
    | (_, h_12) =>
    (f_X11_orders_l19 S_1 FU 80 h_12).bind fun z => match z with
    | (r0_15, h_14) =>
    (ckO S_1 h_14 r0_15 11).bind fun _ =>
    (f_X11_endText S_1 r0_15 h_14).bind fun z => G r0_15 z.2) = G 80 g2 := fun G g g2 rr re => by
    rw [bs_ (show f_X11_beginText S_1 80 (1 : Int32) h = some ((), h1) from r1)]
    dsimp only
    rw [bs_ (ck_80 h1)]
    refine (A _).trans ?_
    rw [bs_ rr]
    dsimp only
    rw [bs_ (ck_80 g), bs_ re]
  have fin : ∀ g : AH, Eqv PFr h1 g → Eqv PFb h (stI (stI g 80 20 0) 80 13 0) ∧ J20 h (stI (stI g 80 20 0) 80 13 0) ∧ (stI (stI g 80 20 0) 80 13 0).2.1 80 20 = 0 ∧ (stI (stI g 80 20 0) 80 13 0).2.1 80 13 = 0 := fun g eg => by
    have jg : J20 g (stI (stI g 80 20 0) 80 13 0) := rfl
    refine ⟨((e1.trans (eg.mono PF_b)).si (PFb_o (by omega))).si (PFb_o (by omega)), (j1.trans (J20.of eg rfl)).trans jg, ?_, stI_s _ _ _ _⟩
    rw [ri_k (by decide), stI_s]
  revert q
  rcases textS (tkK b t) (tkU b t) true 12 0 noCo 0 0 with j | ⟨m, f⟩
  · rintro ⟨g, rr, eg, bd | ⟨lv, c, kg, c59, c285⟩⟩
    · obtain ⟨a1, a2, a3, a4⟩ := fin g eg
      exact ⟨_, fun G => B G g _ rr (m_end1 bd.1), a1, a2, a3, a4, (st_end _ _ _ (by omega)).trans bd.1, (st_end _ _ _ (by omega)).trans bd.2⟩
    · obtain ⟨g1, re, eg1, bd⟩ := m_endB kg c285
      obtain ⟨a1, a2, a3, a4⟩ := fin g1 (eg.trans (eg1.mono PE_F))
      exact ⟨_, fun G => B G g _ rr re, a1, a2, a3, a4, (st_end _ _ _ (by omega)).trans bd.1, (st_end _ _ _ (by omega)).trans bd.2⟩
  · rintro ⟨g, c, i', lv', rr, eg, kg, c285, g21, hm, hs⟩
    obtain ⟨a1, a2, a3, a4⟩ := fin g eg
    have n4 := kg.n4
    have f18 := fr _ _ rr kg.2.1
    refine ⟨_, fun G => B G g _ rr (m_end0 kg c285), a1, a2, a3, a4, (st_end _ _ _ (by omega)).trans kg.2.1, (st_end _ _ _ (by omega)).trans (f18.2.trans v18), (st_end _ _ _ (by omega)).trans g21, hm, c, (st_end _ _ _ (by omega)).trans kg.2.2.2.2.1, by omega, fun y hy => (hs y hy).cong (Nat.le_refl c) (fun j _ => ⟨st_end _ _ _ (by omega), st_end _ _ _ (by omega)⟩) fun j _ => st_end _ _ _ (by omega)⟩
/-! a law is laid down: the other side's loops -/
def PRw82 (p _j : Nat) : Bool := decide (p = 82)
theorem m_l110 {L m : Nat} (hm : m ≤ 12) (hL : L ≤ 4590) : ∀ (d k fu : Nat) (h : AH), k + d = 8 * m → d < fu → h.2.1 80 21 = nI m → ∃ h', f_X11_law_l110 S_1 fu 80 (nI L) (nI k) h = some ((80, nI L), h') ∧ Eqv PRw82 h h' ∧ (∀ j, j < L + 2 + k ∨ L + 2 + 8 * m ≤ j → h'.2.1 82 j = h.2.1 82 j) ∧ ∀ j, k ≤ j → j < 8 * m → h'.2.1 82 (L + 2 + j) = h.2.1 90 j
  | 0, k, fu, h, hk, hf, e => by
    obtain ⟨fu, rfl⟩ : ∃ x, fu = x + 1 := ⟨fu - 1, by omega⟩
    refine ⟨h, ?_, Eqv.refl h, fun _ _ => rfl, fun j h1 h2 => by omega⟩
    rw [f_X11_law_l110]
    unfold f_X11_law_l110b
    rw [bs_ (gi80 h 21), e, show (8 : Int32) * nI m = nI (8 * m) from pk_mul 8 m, if_pos (by rw [nn_le (by omega) (by omega)]; omega)]
  | d + 1, k, fu, h, hk, hf, e => by
    obtain ⟨fu, rfl⟩ : ∃ x, fu = x + 1 := ⟨fu - 1, by omega⟩
    obtain ⟨h', r, e', o, v⟩ := m_l110 hm hL d (k + 1) fu (stI h 82 (L + 2 + k) (h.2.1 90 k)) (by omega) (by omega) ((ri_p (by decide)).trans e)
    refine ⟨h', ?_, ((Eqv.refl h).si (decide_eq_true rfl)).trans e', fun j hj => (o j (by omega)).trans (ri_k (by omega)), fun j h1 h2 => ?_⟩
    · rw [f_X11_law_l110]
      unfold f_X11_law_l110b
      rw [bs_ (gi80 h 21), e, show (8 : Int32) * nI m = nI (8 * m) from pk_mul 8 m, if_neg (by rw [nn_le (by omega) (by omega)]; omega), bs_ (yr_80_3 h), bs_ (yr_80_22 h), bs_ (ai_90 h (by omega)), show nI L + (2 : Int32) + nI k = nI (L + 2 + k) by rw [show nI L + (2 : Int32) = nI (L + 2) from nI_add _ 2, nI_add], bs_ (si_82 h _ (by omega)), lt_e, nI_1]
      exact r
    · by_cases ej : j = k
      · rw [ej, o _ (by omega), stI_s]
      · rw [v j (by omega) h2]
        exact ri_p (by decide)
theorem m_l145 {L c : Nat} (hc : c ≤ 400) (hL : L ≤ 4590) : ∀ (d k fu : Nat) (h : AH), k + d = c → d < fu → h.2.1 80 23 = nI c → ∃ h', f_X11_law_l145 S_1 fu 80 (nI L) (nI k) h = some (80, h') ∧ Eqv PRw82 h h' ∧ (∀ j, j < L + 98 + 2 * k ∨ L + 98 + 2 * c ≤ j → h'.2.1 82 j = h.2.1 82 j) ∧ ∀ j, k ≤ j → j < c → h'.2.1 82 (L + 98 + 2 * j) = h.2.1 91 j ∧ h'.2.1 82 (L + 98 + 2 * j + 1) = h.2.1 92 j
  | 0, k, fu, h, hk, hf, e => by
    obtain ⟨fu, rfl⟩ : ∃ x, fu = x + 1 := ⟨fu - 1, by omega⟩
    refine ⟨h, ?_, Eqv.refl h, fun _ _ => rfl, fun j h1 h2 => by omega⟩
    rw [f_X11_law_l145]
    unfold f_X11_law_l145b
    rw [bs_ (gi80 h 23), e, if_pos (by rw [nn_le (by omega) (by omega)]; omega)]
  | d + 1, k, fu, h, hk, hf, e => by
    obtain ⟨fu, rfl⟩ : ∃ x, fu = x + 1 := ⟨fu - 1, by omega⟩
    obtain ⟨h1, hh1⟩ : ∃ h1, h1 = stI (stI h 82 (L + 98 + 2 * k) (h.2.1 91 k)) 82 (L + 98 + 2 * k + 1) (h.2.1 92 k) := ⟨_, rfl⟩
    have e1 : h1.2.1 80 23 = nI c := by rw [hh1, ri_p (by decide), ri_p (by decide)]; exact e
    have o1 : ∀ p j, p ≠ 82 → h1.2.1 p j = h.2.1 p j := fun p j hp => by rw [hh1, ri_p hp, ri_p hp]
    obtain ⟨h', r, e', o, v⟩ := m_l145 hc hL d (k + 1) fu h1 (by omega) (by omega) e1
    have E1 : Eqv PRw82 h h1 := by
      rw [hh1]
      exact ((Eqv.refl h).si (decide_eq_true rfl)).si (decide_eq_true rfl)
    refine ⟨h', ?_, E1.trans e', fun j hj => ?_, fun j h1 h2 => ?_⟩
    · rw [f_X11_law_l145]
      unfold f_X11_law_l145b
      rw [bs_ (gi80 h 23), e, if_neg (by rw [nn_le (by omega) (by omega)]; omega), bs_ (yr_80_3 h), bs_ (yr_80_24 h), bs_ (ai_91 h (by omega)), show nI L + (98 : Int32) + (2 : Int32) * nI k = nI (L + 98 + 2 * k) by rw [show nI L + (98 : Int32) = nI (L + 98) from nI_add _ 98, show (2 : Int32) * nI k = nI (2 * k) from pk_mul 2 k, nI_add], bs_ (si_82 h _ (by omega))]
      obtain ⟨g, hg⟩ : ∃ g, g = stI h 82 (L + 98 + 2 * k) (h.2.1 91 k) := ⟨_, rfl⟩
      rw [← hg, bs_ (yr_80_3 g), bs_ (yr_80_25 g), bs_ (ai_92 g (by omega)), show nI (L + 98 + 2 * k) + (1 : Int32) = nI (L + 98 + 2 * k + 1) from nI_add _ 1, bs_ (si_82 g _ (by omega)), show g.2.1 92 k = h.2.1 92 k by rw [hg, ri_p (by decide)], hg, ← hh1, lt_e, nI_1]
      exact r
    · rw [o j (by omega), hh1, ri_k (by omega), ri_k (by omega)]
    · by_cases ej : j = k
      · rw [ej, o _ (by omega), o _ (by omega), hh1, stI_s, ri_k (by omega), stI_s]
        exact ⟨rfl, rfl⟩
      · rw [(v j (by omega) h2).1, (v j (by omega) h2).2]
        exact ⟨o1 91 j (by decide), o1 92 j (by decide)⟩
