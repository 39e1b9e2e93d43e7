/-! the call orders -/
theorem ok3 : okV (-3) := Or.inr (Or.inr (Or.inr (Or.inl rfl)))
theorem PFb_T2 {p j : Nat} (h : PGT p j = false) : PFb p j = false ∨ p = 80 ∧ j = 20 := PFb_T h
/-- it is no text of orders -/
theorem bo_ordB {h : AH} {nb nm nh nl t n j : Nat} {b : Nat → Nat} (st : StS h) (k0 : Rel0 h nb nm nh nl) (ht : t ≤ 400) (t1 : h.2.1 0 1 = nI t) (tmf : ∀ h', h'.2.1 80 13 = h.2.1 80 13 → h'.2.1 89 = h.2.1 89 → Tm h' b t) {h1 : AH} (tkn : TkN (tkK b t) n) (e1 : Eqv PRd h h1) (p46 : h1.2.1 46 3 = nI (n + 1)) (p48 : ∀ i, i ≤ n → h1.2.1 48 i = nI (stT b t i)) (r1 : f_X3_read S_1 45 1 (nI t) (0 : Int32) h = some (0, h1)) (v3 : h1.2.1 45 3 = nI j) (hj : j ≤ n) (er : textS (tkK b t) (tkU b t) true 12 0 noCo 0 0 = .inl j) : Bo h (f_X10_orders S_1 0) (f_X11_orders S_1 80) := by
  have k12 := k0.2.2.2.2.2.2.2.2.1
  obtain ⟨t', ht', t1', t2, t3⟩ := k0.2.2.2.2.2.2.2.1
  obtain ⟨g0, hg0⟩ : ∃ g0, g0 = stI (stI (stI h1 0 1 0) 0 15 (nI (stT b t j))) 0 17 (-1) := ⟨_, rfl⟩
  obtain ⟨g, q1, e2, s1⟩ := q_refuse g0 (-6) ok6 (by decide)
  have F : ClF h g := by
    refine ClF.trans ?_ (ClF.of e2 fun p j => PA0_F)
    rw [hg0]
    exact (((ClF.of e1 fun p j => PRd_F).si (by decide)).si (by decide)).si (by decide)
  obtain ⟨u0, hu0⟩ : ∃ u0, u0 = stI (stI g 80 0 0) 80 52 (-1) := ⟨_, rfl⟩
  have ou : ∀ p j, ¬ (p = 80 ∧ (j = 0 ∨ j = 52)) → u0.2.1 p j = g.2.1 p j := fun p j hp => by rw [hu0, st_o (by omega), st_o (by omega)]
  obtain ⟨w0, H, e3, j3, v20, v13, re⟩ := m_ordRead (h := u0) (tmf u0 ((ou _ _ (by omega)).trans (F 80 13 (by omega) (by omega)).1) (funext fun i => (ou _ _ (by omega)).trans (F 89 i (by omega) (by omega)).1)) tkn (by
    have c := CnS.cl (k0.2.2.2.2.2.2.2.2.2) F
    rw [hu0]
    exact c)
  rw [er] at re
  obtain ⟨u19, u18⟩ := id re
  obtain ⟨w, q2, e4, s2⟩ := m_ordJb re
  have M : MoF g w := by
    refine MoF.trans (MoF.trans ?_ (MoF.of e3 fun p j => PFb_F)) (MoF.of e4 fun p j => PB0_F)
    rw [hu0]
    exact ((MoF.refl g).si (by decide)).si (by decide)
  have g20 : g.2.1 80 20 = 0 := (F 80 20 (by omega) (by omega)).1.trans k12.2.2.2
  have E3 : Eqv PGT u0 w0 := e3.less (fun p j => PFb_T) (v20.trans ((ou _ _ (by omega)).trans g20).symm) j3
  have E : Eqv PGT h w := by
    refine Eqv.trans (Eqv.trans ?_ E3) (e4.mono PB0_T)
    rw [hu0]
    refine Eqv.si (Eqv.si ?_ (by rfl)) (by rfl)
    refine Eqv.trans ?_ (e2.mono PA0_T)
    rw [hg0]
    exact Eqv.si (Eqv.si (Eqv.si (e1.mono fun p j h => PZ_T p j (PRd_Z p j h)) (by rfl)) (by rfl)) (by rfl)
  have wv : ∀ p j, ¬ (p = 0 ∧ (j = 1 ∨ j = 14 ∨ j = 15 ∨ j = 17)) → ¬ (45 ≤ p ∧ p ≤ 53) → ¬ (p = 80 ∧ (j = 0 ∨ j = 1 ∨ 13 ≤ j ∧ j ≤ 30 ∨ j = 52)) → p ≠ 81 → ¬ (90 ≤ p ∧ p ≤ 94) → p ≠ 108 → w.2.1 p j = h.2.1 p j := fun p j h1 h2 h3 h4 h5 h6 => by
    rw [e4.i p j (decide_eq_false (by omega)), e3.i p j (decide_eq_false (by omega)), ou p j (by omega), e2.i p j (decide_eq_false (by omega)), hg0, st_o (by omega), st_o (by omega), st_o (by omega), e1.i p j (decide_eq_false (by omega))]
  refine ⟨-6, g, w, ?_, ?_, st.both (ha := g0) (hb := w0) ?_ F s1 ?_ M s2, nb, nm, nh, nl, k0.tape E (fun p j hp => wv p j (by omega) (by omega) (by omega) (by omega) (by omega) (by omega)) ⟨0, by omega, ?_, ?_, fun j hj => ?_⟩ (k12.of ?_ ?_ ?_ ?_ ?_)⟩
  · have pl : f_X3_place S_1 45 (stI h1 0 1 0) = some (nI (stT b t j), stI h1 0 1 0) := q_place (n := n) ((st_o (by omega)).trans v3) hj tkn.1 ((st_o (by omega)).trans p46) ((st_o (by omega)).trans (p48 j hj))
    unfold f_X10_orders
    rw [bs_ (yr_0_12 h), bs_ (yr_0_0 h), bs_ (yi_0 h 1), t1, bs_ (ck_45 h), bs_ r1]
    dsimp only
    rw [bs_ (xi_0 h1 1 _), if_pos rfl, bs_ (yr_0_12 _), bs_ (ck_45 _), bs_ pl]
    dsimp only
    unfold f_X10_orders_j38
    rw [bs_ (xi_0 _ 15 _), bs_ (xi_0 _ 17 _), if_pos rfl, ← hg0, bs_ (ck_0 g0), bs_ q1]
  · unfold f_X11_orders
    rw [bs_ (pi80 g 0 _), bs_ (pi80 _ 52 _), ← hu0, bs_ (ck_80 u0)]
    exact (H ordJ).trans q2
  · rw [hg0]
    funext i
    rw [st_o (by omega), st_o (by omega), st_o (by omega), e1.i 53 i (decide_eq_false (by omega))]
  · funext i
    rw [e3.i 81 i (decide_eq_false (by omega)), ou 81 i (by omega)]
  · rw [(M.1 0 1 (by omega)).1, e2.i 0 1 rfl, hg0, st_o (by omega), st_o (by omega), stI_s]; rfl
  · rw [e4.i 80 13 rfl, v13]; rfl
  · rw [wv 1 _ (by omega) (by omega) (by omega) (by omega) (by omega) (by omega), wv 89 _ (by omega) (by omega) (by omega) (by omega) (by omega) (by omega)]
    exact t3 _ (by assumption)
  · rw [(M.1 0 15 (by omega)).1, e2.i 0 15 rfl, hg0, st_o (by omega), stI_s, e4.i 80 18 rfl, u18]
  · exact wv 0 16 (by omega) (by omega) (by omega) (by omega) (by omega) (by omega)
  · exact wv 80 11 (by omega) (by omega) (by omega) (by omega) (by omega) (by omega)
  · rw [(M.1 0 17 (by omega)).1, e2.i 0 17 rfl, hg0, stI_s, e4.i 80 52 rfl, e3.i 80 52 rfl, hu0, stI_s]
  · rw [e4.i 80 20 rfl]
    exact v20
/-- at the end, whichever it was -/
theorem ord_end {h ha gX wb w : AH} {nb nm nh nl : Nat} {v cc s : Int32} {r' : Nat → Int32} {fx fm : AH → Option (Int32 × AH)} (st : StS h) (k0 : Rel0 h nb nm nh nl) (hfx : fx h = some (v, gX)) (hfm : fm gX = some (v, w)) (a1 : Eqv PGT h ha) (a2 : ClF h ha) (a3 : ha.2.1 53 = h.2.1 53) (a4 : Eqv PA0 ha gX) (a5 : StC ha gX cc) (b1 : Eqv PGT gX wb) (b2 : MoF gX wb) (b3 : wb.2.1 81 = gX.2.1 81) (b4 : Eqv PB0 wb w) (b5 : StM wb w cc) (rr : wb.2.1 82 = r') (ag : Ag (h.2.1 82) r') (bt : BdT r') (sx : StX ha 3 r') (rx : RoX ha 2 r') (rp : RgP (ha.2.1 17) (ha.2.1 18) (ha.2.1 16 2) (ha.2.1 16 3) (wb.2.1 85) (wb.2.1 86) (wb.2.1 80 8) r') (c1 : ha.2.1 0 1 = 0) (c2 : wb.2.1 80 13 = 0) (c3 : ha.2.1 1 = h.2.1 1) (c4 : wb.2.1 89 = gX.2.1 89) (d1 : ha.2.1 0 15 = -1) (d2 : wb.2.1 80 18 = -1) (d3 : ha.2.1 0 16 = h.2.1 0 16) (d4 : wb.2.1 80 11 = gX.2.1 80 11) (d5 : ha.2.1 0 17 = s) (d6 : wb.2.1 80 52 = s) (d7 : wb.2.1 80 20 = 0) : Bo h fx fm := by
  have k12 := k0.2.2.2.2.2.2.2.2.1
  obtain ⟨t', ht', t1', t2, t3⟩ := k0.2.2.2.2.2.2.2.1
  have F : ClF h gX := a2.trans (ClF.of a4 fun p j => PA0_F)
  have M : MoF gX w := b2.trans (MoF.of b4 fun p j => PB0_F)
  have E : Eqv PGT h w := ((a1.trans (a4.mono PA0_T)).trans b1).trans (b4.mono PB0_T)
  have wx : ∀ p j, p < 80 → ¬ (p = 0 ∧ j = 14) → p ≠ 53 → w.2.1 p j = ha.2.1 p j := fun p j h1 h2 h3 => (M.1 p j (by omega)).1.trans (a4.i p j (decide_eq_false (by omega)))
  have wm : ∀ p j, ¬ (p = 80 ∧ j = 1) → p ≠ 81 → w.2.1 p j = wb.2.1 p j := fun p j h1 h2 => b4.i p j (decide_eq_false (by omega))
  have rx' : ∀ p, p < 80 → p ≠ 0 → p ≠ 53 → w.2.1 p = ha.2.1 p := fun p a b c => funext fun j => wx p j a (by omega) c
  have r82 : w.2.1 82 = r' := (funext fun j => wm 82 j (by omega) (by omega)).trans rr
  refine ⟨v, gX, w, hfx, hfm, st.both (ha := ha) (hb := wb) a3 F a5 b3 M b5, nb, nm, nh, nl, k0.gt E ?_ ?_ ?_ ?_ ?_ ⟨0, by omega, ?_, ?_, fun j hj => ?_⟩ (k12.of ?_ ?_ ?_ ?_ ?_)⟩
  · rw [r82]
    exact k0.1.ag ag
  · rw [r82]
    exact bt
  · rw [r82]
    exact sx.rows (rx' 3 (by decide) (by decide) (by decide)) (rx' 4 (by decide) (by decide) (by decide)) (rx' 5 (by decide) (by decide) (by decide))
  · rw [r82]
    exact rx.rows fun d hd hd2 => rx' _ (by omega) (by omega) (by omega)
  · rw [r82, rx' 17 (by decide) (by decide) (by decide), rx' 18 (by decide) (by decide) (by decide), rx' 16 (by decide) (by decide) (by decide), show w.2.1 85 = wb.2.1 85 from funext fun j => wm 85 j (by omega) (by omega), show w.2.1 86 = wb.2.1 86 from funext fun j => wm 86 j (by omega) (by omega), wm 80 8 (by omega) (by omega)]
    exact rp
  · rw [wx 0 1 (by decide) (by decide) (by decide), c1]; rfl
  · rw [wm 80 13 (by decide) (by decide), c2]; rfl
  · rw [wx 1 j (by omega) (by omega) (by omega), c3, wm 89 j (by omega) (by decide), c4, (F 89 j (by decide) (by decide)).1]
    exact t3 j hj
  · rw [wx 0 15 (by decide) (by decide) (by decide), d1, wm 80 18 (by decide) (by decide), d2]
  · rw [wx 0 16 (by decide) (by decide) (by decide), d3]
  · rw [wm 80 11 (by decide) (by decide), d4, (F 80 11 (by decide) (by decide)).1]
  · rw [wx 0 17 (by decide) (by decide) (by decide), d5, wm 80 52 (by decide) (by decide), d6]
  · rw [wm 80 20 (by decide) (by decide), d7]
def PGT2 (p j : Nat) : Bool := PGT p j || decide (p = 80 ∧ j = 20)
theorem PGT_2 {p j : Nat} (h : PGT p j = true) : PGT2 p j = true := by unfold PGT2; rw [h]; rfl
theorem PMo_2 (p j : Nat) (h : PMo p j = true) : PGT2 p j = true := by
  unfold PGT2
  cases e : PGT p j with
  | true => rfl
  | false =>
    rcases PMo_T e with a | a
    · rw [a] at h; cases h
    · rw [decide_eq_true a]; rfl
theorem PTm_T (p j : Nat) (h : PTm p j = true) : PGT p j = true := by
  unfold PTm PD at h
  rw [Bool.or_eq_true, Bool.or_eq_true, Bool.or_eq_true] at h
  rcases h with (h | h | h) | h
  · exact PZ_T p j (PT_Z p j h)
  · have h := of_decide_eq_true h
    exact PGT_of (by omega)
  · have h := of_decide_eq_true h
    exact PGT_of (by omega)
  · have h := of_decide_eq_true h
    exact PGT_of (Or.inl (decide_eq_true (by omega)))
theorem PTc_T (p j : Nat) (h : PTc p j = true) : PGT p j = true := by
  unfold PTc POc PSt at h
  rw [Bool.or_eq_true, Bool.or_eq_true, Bool.or_eq_true] at h
  rcases h with ((h | h) | h) | h
  · exact PZ_T p j (PX_Z p j h)
  · have h := of_decide_eq_true h
    exact PGT_of (by omega)
  · have h := of_decide_eq_true h
    exact PGT_of (by omega)
  · have h := of_decide_eq_true h
    exact PGT_of (Or.inl (decide_eq_true (by omega)))
theorem PGb_T (p j : Nat) (h : PGb p j = true) : PGT p j = true := by
  have h := of_decide_eq_true h
  exact PGT_of (by omega)
theorem PTc_F {p j : Nat} (h1 : 80 ≤ p) (_ : p < 110) : PTc p j = false := PTc_no (by omega)
theorem PTm_F {p j : Nat} (h : p < 80 ∨ 110 ≤ p) : PTm p j = false := PTm_no (by omega)
theorem PMo_F {p j : Nat} (h : p < 80 ∨ 110 ≤ p) : PMo p j = false := PMo_no (by omega)
theorem PGb_F {p j : Nat} (h : p < 80 ∨ 110 ≤ p) : PGb p j = false := decide_eq_false (by omega)
theorem PO6_F {p j : Nat} (h1 : 80 ≤ p) (_ : p < 110) : PO6 p j = false := PO6_no (by omega)
def PFx (p j : Nat) : Bool := PSd 3 p j || (PRg 16 p j || decide (p = 0 ∧ j = 17))
theorem PFx_no {p j : Nat} (h : ¬ (3 ≤ p ∧ p ≤ 5 ∨ 16 ≤ p ∧ p ≤ 18 ∨ p = 0 ∧ j = 17)) : PFx p j = false := by
  unfold PFx
  rw [show PSd 3 p j = false from decide_eq_false (by omega), show PRg 16 p j = false from decide_eq_false (by omega), decide_eq_false (by omega)]
  rfl
theorem PFx_T (p j : Nat) (h : PFx p j = true) : PGT p j = true := by
  unfold PFx at h
  rw [Bool.or_eq_true, Bool.or_eq_true] at h
  rcases h with h | h | h
  · have h := of_decide_eq_true h
    exact PGT_of (by omega)
  · have h := of_decide_eq_true h
    exact PGT_of (by omega)
  · have h := of_decide_eq_true h
    exact PGT_of (by omega)
theorem Rel0.z8 {h : AH} {nb nm nh nl : Nat} (k : Rel0 h nb nm nh nl) : ∃ z, z ≤ 16 ∧ h.2.1 80 8 = nI z := by
  obtain ⟨z, x, hz, hx, s1, s2, s3, H⟩ := k.2.2.2.2.1
  exact ⟨z, hz, s3⟩
theorem bo_ordG {h : AH} {nb nm nh nl t n m c : Nat} {b : Nat → Nat} {f : Nat → Co} (st : StS h) (k0 : Rel0 h nb nm nh nl) (ht : t ≤ 400) (t1 : h.2.1 0 1 = nI t) (tmf : ∀ h', h'.2.1 80 13 = h.2.1 80 13 → h'.2.1 89 = h.2.1 89 → Tm h' b t) {h1 : AH} (tkn : TkN (tkK b t) n) (e1 : Eqv PRd h h1) (r1 : f_X3_read S_1 45 1 (nI t) (0 : Int32) h = some (1, h1)) (hc : c ≤ 400) (v3 : h1.2.1 50 3 = nI m) (hm : m ≤ 12) (HX : ∀ y, y < m → HdF (h1.2.1 51) (h1.2.1 52) y (f y) c) (er : textS (tkK b t) (tkU b t) true 12 0 noCo 0 0 = .inr (m, f)) : Bo h (f_X10_orders S_1 0) (f_X11_orders S_1 80) := by
  obtain ⟨p, nn, fl, ct, cm⟩ := k0.law
  have k12 := k0.2.2.2.2.2.2.2.2.1
  have k13 := k0.2.2.2.2.2.2.2.2.2
  have sx0 := k0.2.2.1.1
  have rx0 := k0.2.2.1.2
  have bcl := k0.1.2.2.2.2.2.2.2.2.1
  obtain ⟨z, hz, e8⟩ := k0.z8
  obtain ⟨h6, X6, E6, c51, c52, c503, x1, x15, x17, x18, x19, s22, g20, g21, g192, g193⟩ := q_ordB t1 e1 r1 sx0
  have row6 : ∀ p, ¬ (45 ≤ p ∧ p ≤ 52) → p ≠ 0 → ¬ (19 ≤ p ∧ p ≤ 24) → h6.2.1 p = h.2.1 p := fun p a b c => E6.row fun j => PO6_no (by omega)
  have ct6 : Ct h6 3 (h.2.1 82) p nn fl nb nm := ct.mv (Or.inl rfl) E6 (fun q j l => PO6_no (by unfold LawP at l; omega)) (sx0.rows (row6 3 (by decide) (by decide) (by decide)) (row6 4 (by decide) (by decide) (by decide)) (row6 5 (by decide) (by decide) (by decide))) (Ag.refl _)
  have hs := text_s 12 0 noCo 0 0 m f er fun y hy => by omega
  have prep : ∀ g, ClF h g → ∃ w6 c', f_X11_orders S_1 80 g = (f_X11_orders_l140 S_1 FU 80 (nI z) (nI 0) w6).bind tailM ∧ Eqv PMo g w6 ∧ J20 g w6 ∧ w6.2.1 80 20 = 0 ∧ w6.2.1 80 13 = 0 ∧ w6.2.1 80 18 = -1 ∧ w6.2.1 80 52 = -1 ∧ w6.2.1 80 50 = nI 0 ∧ w6.2.1 80 51 = -1 ∧ w6.2.1 80 21 = nI m ∧ c' ≤ 400 ∧ HdOs w6 m f c' ∧ (∀ j, j < 18 → w6.2.1 85 (306 + j) = h.2.1 82 (5 + j)) ∧ (∀ j, j < 288 → w6.2.1 87 j = h.2.1 85 j) ∧ (∀ j, j < 16 → w6.2.1 88 j = h.2.1 86 j) ∧ w6.2.1 82 = h.2.1 82 ∧ OS p nn fl nb nm (h.2.1 82) h6 w6 := fun g F => by
    obtain ⟨u0, hu0⟩ : ∃ u0, u0 = stI (stI g 80 0 0) 80 52 (-1) := ⟨_, rfl⟩
    have ou : ∀ p j, ¬ (p = 80 ∧ (j = 0 ∨ j = 52)) → u0.2.1 p j = g.2.1 p j := fun p j hp => by rw [hu0, st_o (by omega), st_o (by omega)]
    have og : ∀ p j, 80 ≤ p → p < 110 → ¬ (p = 80 ∧ (j = 0 ∨ j = 52)) → u0.2.1 p j = h.2.1 p j := fun p j a b c => (ou p j c).trans (F p j a b).1
    obtain ⟨w0, H, e3, j3, v20, v13, re⟩ := m_ordRead (h := u0) (tmf u0 (og _ _ (by omega) (by omega) (by omega)) (funext fun i => og _ _ (by omega) (by omega) (by omega))) tkn (by
      have c := CnS.cl k13 F
      rw [hu0]
      exact c)
    rw [er] at re
    have w82 : w0.2.1 82 = h.2.1 82 := funext fun j => (e3.i 82 j (decide_eq_false (by omega))).trans (og _ _ (by omega) (by omega) (by omega))
    have w8 : w0.2.1 80 8 = nI z := (e3.i 80 8 rfl).trans ((og _ _ (by omega) (by omega) (by omega)).trans e8)
    obtain ⟨w6, c', q6, e6, j6, a20, a13, a18, a52, a50, a51, a21, -, hc', ho, a85, a87, a88⟩ := m_ordJg re w8 w82
    have j0 : J20 g u0 := by rw [hu0]; rfl
    have E0 : Eqv PMo g w6 := by
      refine Eqv.trans (Eqv.trans ?_ (e3.mono PFb_o2)) e6
      rw [hu0]
      exact ((Eqv.refl g).si (PMo_o (by omega))).si (PMo_o (by omega))
    have u6 : w6.2.1 82 = h.2.1 82 := funext fun j => (e6.i 82 j (PMo_no (by omega))).trans (congrFun w82 j)
    have wg : ∀ p j, 80 ≤ p → p < 110 → PMo p j = false → w6.2.1 p j = h.2.1 p j := fun p j a b c => (E0.i p j c).trans (F p j a b).1
    refine ⟨w6, c', ?_, E0, (j0.trans j3).trans j6, a20.trans v20, a13.trans v13, a18, a52.trans ((e3.i 80 52 rfl).trans (by rw [hu0, stI_s])), a50, a51, a21, hc', ho, a85, fun j hj => (a87 j hj).trans ?_, fun j hj => (a88 j hj).trans ?_, u6, ct6, cm.z u6 (a20.trans (v20.trans k12.2.2.2.symm)), u6, k0.2.1, bcl, ?_⟩
    · unfold f_X11_orders
      rw [bs_ (pi80 g 0 _), bs_ (pi80 _ 52 _), ← hu0, bs_ (ck_80 u0)]
      exact (H ordJ).trans q6
    · exact (e3.i 85 j (decide_eq_false (by omega))).trans (og _ _ (by omega) (by omega) (by omega))
    · exact (e3.i 86 j (decide_eq_false (by omega))).trans (og _ _ (by omega) (by omega) (by omega))
    · rw [row6 17 (by decide) (by decide) (by decide), row6 18 (by decide) (by decide) (by decide), row6 16 (by decide) (by decide) (by decide), wg 80 8 (by decide) (by decide) rfl]
      exact k0.2.2.2.2.1.co (fun _ _ => rfl) (fun _ _ => rfl) (fun j hj => wg 85 j (by decide) (by decide) (PMo_no (by omega))) (fun j hj => wg 86 j (by decide) (by decide) (PMo_no (by omega)))
  have run : ∀ w6 c', w6.2.1 80 50 = nI 0 → w6.2.1 80 51 = -1 → w6.2.1 80 21 = nI m → c' ≤ 400 → HdOs w6 m f c' → OS p nn fl nb nm (h.2.1 82) h6 w6 → ∃ y', LoB p nn fl nb nm (0 + 20 * m) h6 w6 (f_X10_orders_l102 S_1 FU 0 50 (nI 0) h6) (.inr 0) (failX y') (f_X11_orders_l140 S_1 FU 80 (nI z) (nI 0) w6) (.inr 80) (failM2 (nI z) y') := fun w6 c' a50 a51 a21 hc' ho os =>
    text_both (nI z) hm hc hc' hs m 0 FU FU 0 (h.2.1 82) h6 w6 (by omega) (by unfold FU; omega) (by unfold FU; omega) os x18 a50 (x19.trans a51.symm) (c503.trans v3) a21 (fun y hy => by rw [c51, c52]; exact HX y hy) ho
  -- what the class answers
  have ok : ∀ hx' d', d' ≤ 0 + 20 * m → f_X10_orders_l102 S_1 FU 0 50 (nI 0) h6 = some (.inr 0, hx') → hx'.2.1 0 18 = nI d' → ∃ gX, f_X10_orders S_1 0 h = some (nI d', gX) ∧ Eqv PA0 hx' gX ∧ StC hx' gX 0 := fun hx' d' hd q1 q2 => by
    obtain ⟨gX, q3, e3, s3⟩ := q_accept hx' (nI d')
    refine ⟨gX, ?_, e3, s3⟩
    rw [X6, bs_ q1]
    unfold tailX
    dsimp only
    rw [bs_ (yi_0 hx' 18), q2, bs_ (ck_0 hx'), bs_ q3]
  have no : ∀ hx' y', f_X10_orders_l102 S_1 FU 0 50 (nI 0) h6 = failX y' hx' → StX hx' 22 (h.2.1 82) → ∃ h2 gX, f_X10_orders S_1 0 h = some (-3, gX) ∧ Eqv PFx hx' h2 ∧ StX h2 3 (h.2.1 82) ∧ (∀ j, j < 255 → h2.2.1 17 j = hx'.2.1 20 j) ∧ (∀ j, j < 17 → h2.2.1 18 j = hx'.2.1 21 j) ∧ h2.2.1 16 2 = hx'.2.1 19 2 ∧ h2.2.1 16 3 = hx'.2.1 19 3 ∧ h2.2.1 0 17 = nI y' ∧ Eqv PA0 h2 gX ∧ StC h2 gX (-3) := fun hx' y' q1 q2 => by
    obtain ⟨h2, gX, q3, a1, a2, a3, a4, a5, a6, a7, a8, a9⟩ := q_failX y' q2
    refine ⟨h2, gX, ?_, a1, a2, a3, a4, a5, a6, a7, a8, a9⟩
    rw [X6, q1, bs_ q3]
    rfl
  have s22' : ∀ hx', Eqv PTc h6 hx' → StX hx' 22 (h.2.1 82) := fun hx' e => s22.rows (e.row fun j => PTc_no (by omega)) (e.row fun j => PTc_no (by omega)) (e.row fun j => PTc_no (by omega))
  have F6 : ClF h h6 := ClF.of E6 fun p j => PO6_F
  -- some answer of the class's there is
  have ex : ∃ v gX, f_X10_orders S_1 0 h = some (v, gX) ∧ ClF h gX := by
    obtain ⟨w6, c', -, -, -, -, -, -, -, a50, a51, a21, hc', ho, -, -, -, -, os⟩ := prep h (ClF.refl h)
    obtain ⟨y', ⟨hx', hm', d', q1, q2, e, e', ag, os', hd1, hd2, hle, hl⟩ | ⟨hx', hm', q1, q2, e, e', ag⟩⟩ := run w6 c' a50 a51 a21 hc' ho os
    · obtain ⟨gX, q3, e3, -⟩ := ok hx' d' hle q1 hd1
      exact ⟨_, gX, q3, (F6.trans (ClF.of e fun p j => PTc_F)).trans (ClF.of e3 fun p j => PA0_F)⟩
    · obtain ⟨h2, gX, q3, a1, -, -, -, -, -, -, a8, -⟩ := no hx' y' q1 (s22' hx' e)
      exact ⟨_, gX, q3, ((F6.trans (ClF.of e fun p j => PTc_F)).trans (ClF.of a1 fun p j a b => PFx_no (by omega))).trans (ClF.of a8 fun p j => PA0_F)⟩
  obtain ⟨v, gX, fxe, F⟩ := ex
  obtain ⟨w6, c', meq, m1, m3, m20, m13, m18, m52, a50, a51, a21, hc', ho, b85, b87, b88, b82, os⟩ := prep gX F
  have T6 : Eqv PGT h h6 := E6.mono PO6_T
  have g20x : gX.2.1 80 20 = 0 := (F 80 20 (by omega) (by omega)).1.trans k12.2.2.2
  have hQ : ∀ p j, PGT p j = false → PGT2 p j = false ∨ p = 80 ∧ j = 20 := fun p j z => by
    by_cases c : p = 80 ∧ j = 20
    · exact Or.inr c
    · refine Or.inl ?_
      unfold PGT2
      rw [z, decide_eq_false c]
      rfl
  have h6v : ∀ p j, PO6 p j = false → h6.2.1 p j = h.2.1 p j := fun p j c => E6.i p j c
  obtain ⟨y', ⟨hx', hm', d', q1, q2, e, e', ag, os', hd1, hd2, hle, hl⟩ | ⟨hx', hm', q1, q2, e, e', ag⟩⟩ := run w6 c' a50 a51 a21 hc' ho os
  · obtain ⟨gX', q3, e3, s3⟩ := ok hx' d' hle q1 hd1
    rw [fxe] at q3
    injection q3 with q3
    injection q3 with q3 q4
    subst q3 q4
    have V0 : 0 ≤ nI d' := nI_pos' (by omega)
    obtain ⟨w, q5, e5, s5⟩ := m_tell hm' (nI d') (Or.inl V0)
    obtain ⟨ct', cm', -, bt', -, rp'⟩ := os'
    have E1 : Eqv PGT2 gX hm' := (m1.mono PMo_2).trans (e'.mono fun p j h => PGT_2 (PTm_T p j h))
    have mm : ∀ p j, PTm p j = false → hm'.2.1 p j = w6.2.1 p j := fun p j c => e'.i p j c
    have xx : ∀ p j, PTc p j = false → hx'.2.1 p j = h6.2.1 p j := fun p j c => e.i p j c
    refine ord_end (ha := hx') (wb := hm') (cc := 0) (s := -1) (r' := hm'.2.1 82) st k0 fxe (w := w) ?_ (T6.trans (e.mono PTc_T)) (F6.trans (ClF.of e fun p j => PTc_F)) (funext fun j => (xx 53 j (PTc_no (by omega))).trans (h6v 53 j (PO6_no (by omega)))) e3 s3 (E1.less hQ ((mm 80 20 (PTm_no (by omega))).trans (m20.trans g20x.symm)) (m3.trans (J20.of e' (PTm_no (by omega))))) ((MoF.of m1 fun p j => PMo_F).trans (MoF.of e' fun p j => PTm_F)) (funext fun j => (mm 81 j (PTm_no (by omega))).trans (m1.i 81 j (PMo_no (by omega)))) e5 (s5.pos V0) rfl (by rw [← b82]; exact ag) bt' ct'.2.1 ct'.2.2.1 rp' ((xx 0 1 (PTc_no (by omega))).trans x1) ((mm 80 13 (PTm_no (by omega))).trans m13) (funext fun j => (xx 1 j (PTc_no (by omega))).trans (h6v 1 j (PO6_no (by omega)))) (funext fun j => (mm 89 j (PTm_no (by omega))).trans (m1.i 89 j (PMo_no (by omega)))) ((xx 0 15 (PTc_no (by omega))).trans x15) ((mm 80 18 (PTm_no (by omega))).trans m18) ((xx 0 16 (PTc_no (by omega))).trans (h6v 0 16 (PO6_no (by omega)))) ((mm 80 11 (PTm_no (by omega))).trans (m1.i 80 11 (PMo_no (by omega)))) ((xx 0 17 (PTc_no (by omega))).trans x17) ((mm 80 52 (PTm_no (by omega))).trans m52) ((mm 80 20 (PTm_no (by omega))).trans m20)
    rw [meq, bs_ q2]
    unfold tailM
    dsimp only
    rw [bs_ (gi80 hm' 50), hd2, bs_ (ck_80 hm'), bs_ q5]
  · obtain ⟨h2, gX', q3, f1, f2, f3, f4, f5, f6, f7, f8, f9⟩ := no hx' y' q1 (s22' hx' e)
    rw [fxe] at q3
    injection q3 with q3
    injection q3 with q3 q4
    subst q3 q4
    obtain ⟨g2, w, q5, p1, pj, p82, p82', p85, p86, p8, p52, p9, p10⟩ := m_failM (g := hm') (z := z) y'
    have E1 : Eqv PGT2 gX g2 := ((m1.mono PMo_2).trans (e'.mono fun p j h => PGT_2 (PTm_T p j h))).trans (p1.mono fun p j h => PGT_2 (PGb_T p j h))
    have mm : ∀ p j, PTm p j = false → hm'.2.1 p j = w6.2.1 p j := fun p j c => e'.i p j c
    have nn' : ∀ p j, PTm p j = false → PGb p j = false → g2.2.1 p j = w6.2.1 p j := fun p j c d => (p1.i p j d).trans (mm p j c)
    have xx : ∀ p j, PTc p j = false → PFx p j = false → h2.2.1 p j = h6.2.1 p j := fun p j c d => (f1.i p j d).trans (e.i p j c)
    have x0 : ∀ p j, ¬ (32 ≤ p ∧ p ≤ 35 ∨ 3 ≤ p ∧ p ≤ 5 ∨ 16 ≤ p ∧ p ≤ 24 ∨ p = 0 ∧ (j = 1 ∨ j = 15 ∨ 17 ≤ j) ∨ 45 ≤ p ∧ p ≤ 52) → h2.2.1 p j = h.2.1 p j := fun p j c => (xx p j (PTc_no (by omega)) (PFx_no (by omega))).trans (h6v p j (PO6_no (by omega)))
    have r82 : g2.2.1 82 = h.2.1 82 := funext fun j => by
      by_cases c : 5 ≤ j ∧ j < 23
      · obtain ⟨i, rfl⟩ : ∃ i, j = 5 + i := ⟨j - 5, by omega⟩
        rw [p82 i (by omega), mm 85 _ (PTm_no (by omega)), b85 i (by omega)]
      · rw [p82' j (by omega), ag j (by omega) (by omega), b82]
    refine ord_end (ha := h2) (wb := g2) (cc := -3) (s := nI y') (r' := h.2.1 82) st k0 fxe (w := w) ?_ ((T6.trans (e.mono PTc_T)).trans (f1.mono PFx_T)) ((F6.trans (ClF.of e fun p j => PTc_F)).trans (ClF.of f1 fun p j a b => PFx_no (by omega))) (funext fun j => x0 53 j (by omega)) f8 f9 (E1.less hQ ((nn' 80 20 (PTm_no (by omega)) rfl).trans (m20.trans g20x.symm)) ((m3.trans (J20.of e' (PTm_no (by omega)))).trans pj)) (((MoF.of m1 fun p j => PMo_F).trans (MoF.of e' fun p j => PTm_F)).trans (MoF.of p1 fun p j => PGb_F)) (funext fun j => (nn' 81 j (PTm_no (by omega)) rfl).trans (m1.i 81 j (PMo_no (by omega)))) p9 p10 r82 (Ag.refl _) k0.2.1 f2 (rx0.rows fun d hd hd2 => funext fun j => x0 _ j (by omega)) ?_ ((xx 0 1 (PTc_no (by omega)) (PFx_no (by omega))).trans x1) ((nn' 80 13 (PTm_no (by omega)) rfl).trans m13) (funext fun j => x0 1 j (by omega)) (funext fun j => (nn' 89 j (PTm_no (by omega)) rfl).trans (m1.i 89 j (PMo_no (by omega)))) ((xx 0 15 (PTc_no (by omega)) (PFx_no (by omega))).trans x15) ((nn' 80 18 (PTm_no (by omega)) rfl).trans m18) (x0 0 16 (by omega)) ((nn' 80 11 (PTm_no (by omega)) rfl).trans (m1.i 80 11 (PMo_no (by omega)))) f7 p52 ((nn' 80 20 (PTm_no (by omega)) rfl).trans m20)
    · rw [meq, q2, bs_ q5]
      rfl
    · rw [show h2.2.1 16 2 = h.2.1 16 2 from f5.trans ((e.i 19 2 (PTc_no (by omega))).trans g192), show h2.2.1 16 3 = h.2.1 16 3 from f6.trans ((e.i 19 3 (PTc_no (by omega))).trans g193), show g2.2.1 80 8 = h.2.1 80 8 from p8.trans e8.symm]
      exact k0.2.2.2.2.1.co (fun j hj => (f3 j hj).trans ((e.i 20 j (PTc_no (by omega))).trans (g20 j hj))) (fun j hj => (f4 j hj).trans ((e.i 21 j (PTc_no (by omega))).trans (g21 j hj))) (fun j hj => (p85 j hj).trans ((mm 87 j (PTm_no (by omega))).trans (b87 j hj))) (fun j hj => (p86 j hj).trans ((mm 88 j (PTm_no (by omega))).trans (b88 j hj)))
theorem bo_orders {h : AH} (k : Rel h) : Bo h (f_X10_orders S_1 0) (f_X11_orders S_1 80) := by
  obtain ⟨st, nb, nm, nh, nl, k0⟩ := id k
  obtain ⟨t, b, ht, t1, tp, tmf⟩ := k0.2.2.2.2.2.2.2.1.bytes
  obtain ⟨h1, n, tkn, e1, ⟨p46, p48⟩, q⟩ := q_read tp ht true
  cases er : textS (tkK b t) (tkU b t) true 12 0 noCo 0 0 with
  | inl j =>
    rw [er] at q
    obtain ⟨r1, v3, hj⟩ := q
    exact bo_ordB st k0 ht t1 tmf tkn e1 p46 p48 r1 v3 hj er
  | inr x =>
    obtain ⟨m, f⟩ := x
    rw [er] at q
    obtain ⟨c, r1, v2, hc, v3, -, hm, hh⟩ := q
    exact bo_ordG st k0 ht t1 tmf tkn e1 r1 hc v3 hm hh er
