/-! the call law -/
def noS : Option DD := none
/-- a clause, as the laws have it -/
def clO (f : Nat → Co) : Nat → Cl := fun c => ((f c).1 - 263, (f c).2.1.1, (f c).2.1.2.2)
theorem HdL.k {h : AH} {t c : Nat} {x : Co} (k : HdL h t x c) : 263 ≤ x.1 ∧ x.1 ≤ 265 ∧ (x.2.1.1 = none ↔ x.1 = 265) ∧ x.2.1.2.1 = none := k.2.1
/-- what the class keeps of it -/
theorem law_X {h h' : AH} {c m p : Nat} {f : Nat → Co} (hc : c ≤ 400) (hm : m ≤ 12) (cp : Cop h c m p h') (H : ∀ y, y < m → HdF (h.2.1 51) (h.2.1 52) y (f y) c) (K : ∀ y, y < m → 263 ≤ (f y).1 ∧ (f y).1 ≤ 265 ∧ ((f y).2.1.1 = none ↔ (f y).1 = 265) ∧ (f y).2.1.2.1 = none) : LawX h' p m (clO f) ∧ FarX h' p := by
  obtain ⟨o, i, rf, p110, kp, v3, qc, qh, c110, h110, kc, kh, R, vc, vh⟩ := cp
  have gr : ∀ k, gR S_1 h' p 8 k = if k = 1 then some qh else if k = 0 then some qc else none := fun k => by
    unfold gR
    rw [if_pos kp]
    exact R k
  refine ⟨⟨hm, kp, v3, qc, qh, c, gr 0, gr 1, kc, hc, kh, fun y hy => ?_⟩, Or.inr (Or.inr (Or.inr p110)), fun k q hq => ?_⟩
  · obtain ⟨k1, k2, k3, k4⟩ := K y hy
    obtain ⟨d1, d2, i, m1, m2, j, a1, a2, a3, a4, a5, a6, a7, a8⟩ := H y hy
    have l1 := a6.le
    have l3 := a8.le
    have em : m1 = m2 := by
      revert a7
      rw [k4]
      exact fun z => z
    subst em
    refine ⟨by show (f y).1 - 263 ≤ 2; omega, ?_, i, m1, j, (vh _ (by omega)).trans a1, (vh _ (by omega)).trans a3, (vh _ (by omega)).trans a4, by omega, a5, ?_, ?_⟩
    · rw [vh _ (by omega), d1]
      show nI (f y).1 = nI (263 + ((f y).1 - 263))
      rw [show 263 + ((f y).1 - 263) = (f y).1 by omega]
    · show (match (f y).2.1.1 with
        | none => i = m1
        | some s => ∃ L, L < 52 ∧ CdX (h'.2.1 qc) i m1 s L)
      revert a6
      rcases (f y).2.1.1 with _ | s
      · exact fun z => z
      · rintro ⟨N, L, hL, sx⟩
        exact ⟨L, by omega, Or.inl ⟨N, sx.cong fun k _ hk => vc k (by omega)⟩⟩
    · show (match (f y).2.1.2.2 with
        | none => j ≤ m1
        | some s => ∃ L N, L < 52 ∧ TstX (h'.2.1 qc) N m1 j s L)
      revert a8
      rcases (f y).2.1.2.2 with _ | s
      · exact fun z => Nat.le_of_eq (Eq.symm z)
      · rintro ⟨N, L, hL, sx⟩
        exact ⟨L, N, by omega, sx.cong fun k _ hk => vc k (by omega)⟩
  · rw [gr k] at hq
    by_cases z1 : k = 1
    · rw [if_pos z1] at hq
      injection hq with hq
      exact Or.inr (Or.inr (Or.inr (by omega)))
    · rw [if_neg z1] at hq
      by_cases z0 : k = 0
      · rw [if_pos z0] at hq
        injection hq with hq
        exact Or.inr (Or.inr (Or.inr (by omega)))
      · rw [if_neg z0] at hq
        cases hq
/-- what the other side keeps of it -/
theorem law_R {h : AH} {r : Nat → Int32} {c m L : Nat} {f : Nat → Co} (hc : c ≤ 400) (hm : m ≤ 12) (hL : L ≤ 4590) (H : HdLs h m f c) (e1 : r (L + 1) = nI m) (e2 : ∀ j, j < 8 * m → r (L + 2 + j) = h.2.1 90 j) (e3 : ∀ j, j < c → r (L + 98 + 2 * j) = h.2.1 91 j ∧ r (L + 98 + 2 * j + 1) = h.2.1 92 j) : LawR r L m (clO f) := by
  refine ⟨hm, hL, e1, fun y hy => ?_⟩
  obtain ⟨k1, ⟨b1, b2, b3, b4⟩, i, m1, j, a1, a2, a3, a4, a5, a6, a7⟩ := H y hy
  have l1 := a7.le
  have E : ∀ t, t < 8 → r (L + 2 + 8 * y + t) = h.2.1 90 (8 * y + t) := fun t ht => by
    rw [Nat.add_assoc (L + 2)]
    exact e2 _ (by omega)
  refine ⟨by show (f y).1 - 263 ≤ 2; omega, (E 0 (by omega)).trans k1, i, m1, j, (E 3 (by omega)).trans a1, (E 4 (by omega)).trans a2, (E 5 (by omega)).trans a3, (E 6 (by omega)).trans a4, by omega, by omega, ?_, ?_⟩
  · show (match (f y).2.1.1 with
      | none => (f y).1 - 263 = 2
      | some s => (f y).1 - 263 ≠ 2 ∧ ∃ D, D < 400 ∧ CdM false (fun k => r (L + 98 + 2 * k)) (fun k => r (L + 98 + 2 * k + 1)) i m1 s D)
    revert a6 b3
    rcases (f y).2.1.1 with _ | s
    · intro b3 a6
      have := b3.mp rfl
      show (f y).1 - 263 = 2
      omega
    · rintro b3 ⟨N, D, hD, sx⟩
      refine ⟨fun z => ?_, D, by omega, Or.inl ⟨N, sx.cong fun k hk => e3 k (by omega)⟩⟩
      have : (f y).1 = 265 := by omega
      cases b3.mpr this
  · show (match (f y).2.1.2.2 with
      | none => j ≤ m1
      | some s => ∃ D N, D < 400 ∧ TstM false (fun k => r (L + 98 + 2 * k)) (fun k => r (L + 98 + 2 * k + 1)) N m1 j s D)
    revert a7
    rcases (f y).2.1.2.2 with _ | s
    · exact fun z => Nat.le_of_eq (Eq.symm z)
    · rintro ⟨N, D, hD, sx⟩
      exact ⟨D, N, by omega, sx.cong fun k hk => e3 k (by omega)⟩
theorem Eqv.less {P Q : Nat → Nat → Bool} {h h' : AH} (e : Eqv P h h') (hQ : ∀ p j, Q p j = false → P p j = false ∨ p = 80 ∧ j = 20) (i20 : h'.2.1 80 20 = h.2.1 80 20) (l20 : J20 h h') : Eqv Q h h' := by
  refine ⟨e.1, fun p j hq => ?_, fun p j hq => ?_, e.r⟩
  · rcases hQ p j hq with z | ⟨rfl, rfl⟩
    · exact e.i p j z
    · exact i20
  · rcases hQ p j hq with z | ⟨rfl, rfl⟩
    · exact e.l p j z
    · exact l20
theorem PRd_Z (p j : Nat) (h : PRd p j = true) : PZ p j = true := by
  have h := of_decide_eq_true h
  exact decide_eq_true (by omega)
theorem PFb_T {p j : Nat} (h : PGT p j = false) : PFb p j = false ∨ p = 80 ∧ j = 20 := by
  by_cases z : p = 80 ∧ j = 20
  · exact Or.inr z
  · refine Or.inl ?_
    cases e : PFb p j with
    | false => rfl
    | true =>
      have e := of_decide_eq_true e
      have : PGT p j = true := by
        by_cases c : p = 80 ∧ (j = 13 ∨ j = 18)
        · exact PGT_of (by omega)
        · exact PGT_of (Or.inl (decide_eq_true (by omega)))
      rw [this] at h
      cases h
theorem PFb_F {p j : Nat} (h : p < 80 ∨ 110 ≤ p) : PFb p j = false := decide_eq_false (by omega)
theorem PRd_F {p j : Nat} (h1 : 80 ≤ p) (_ : p < 110) : PRd p j = false := decide_eq_false (by omega)
/-- the bytes of the tape, as numbers -/
theorem TpS.bytes {h : AH} (k : TpS h) : ∃ t b, t ≤ 400 ∧ h.2.1 0 1 = nI t ∧ Tp h b ∧ ∀ h', h'.2.1 80 13 = h.2.1 80 13 → h'.2.1 89 = h.2.1 89 → Tm h' b t := by
  obtain ⟨t, ht, t1, t2, t3⟩ := k
  have B : ∀ j, j < 400 → h.2.1 89 j = nI ((h.2.1 89 j).toNatClampNeg) ∧ (h.2.1 89 j).toNatClampNeg < 256 := fun j hj => by
    obtain ⟨x, hx, ex⟩ := rg_nI (n := 255) (by decide) (t3 j hj).2
    rw [ex, tn_n (by omega)]
    exact ⟨rfl, by omega⟩
  refine ⟨t, fun j => (h.2.1 89 j).toNatClampNeg, ht, t1, fun j hj => ⟨(t3 j hj).1.trans (B j hj).1, (B j hj).2⟩, fun h' e13 e89 => ⟨e13.trans t2, ht, fun j hj => ?_⟩⟩
  rw [e89]
  exact B j hj
/-- what stands behind the reading of a law -/
def lawJ (r0 : Nat) (h_2 : AH) : Option (Int32 × AH) :=
  (gI S_1 h_2 r0 11 19).bind fun v_4 =>
  if v_4 = (0 : Int32) then
    (gR S_1 h_2 r0 11 3).bind fun p_7 =>
    (aI S_1 h_2 p_7 (3 : Int32)).bind fun v_9 =>
    lt (((90 : Int32) + ((900 : Int32) * v_9))) fun y_11 =>
    (gR S_1 h_2 r0 11 3).bind fun p_12 =>
    (gI S_1 h_2 r0 11 21).bind fun v_14 =>
    (sI S_1 h_2 p_12 (y_11 + (1 : Int32)) v_14).bind fun h_16 =>
    (f_X11_law_l110 S_1 FU r0 y_11 (0 : Int32) h_16).bind fun z => match z with
    | ((r0_19, x1_20), h_18) =>
    (f_X11_law_l145 S_1 FU r0_19 x1_20 (0 : Int32) h_18).bind fun z => match z with
    | (r0_22, h_21) =>
    (gR S_1 h_21 r0_22 11 3).bind fun p_23 =>
    (aI S_1 h_21 p_23 (3 : Int32)).bind fun v_25 =>
    (sI S_1 h_21 p_23 (3 : Int32) (v_25 + (1 : Int32))).bind fun h_27 =>
    (gR S_1 h_27 r0_22 11 3).bind fun p_29 =>
    (aI S_1 h_27 p_29 (3 : Int32)).bind fun v_31 =>
    (ckO S_1 h_27 r0_22 11).bind fun _ =>
    (f_X11_tell S_1 r0_22 ((v_31 - (1 : Int32))) h_27).bind fun z => match z with
    | (z_35, h_34) =>
    some (z_35, h_34)
  else
    (ckO S_1 h_2 r0 11).bind fun _ =>
    (f_X11_tell S_1 r0 (-6 : Int32) h_2).bind fun z => match z with
    | (z_38, h_37) =>
    some (z_38, h_37)
theorem st_o {h : AH} {p k q j : Nat} {v : Int32} (e : ¬ (q = p ∧ j = k)) : (stI h p k v).2.1 q j = h.2.1 q j := if_neg e
theorem CnS.cl {h g : AH} (k : CnS h) (F : ClF h g) : CnS g := fun p hp => (funext fun j => (F p j (by omega) (by omega)).2).trans (k p hp)
theorem ScS.of {h w : AH} (k : ScS h) (e1 : w.2.1 0 15 = w.2.1 80 18) (e2 : w.2.1 0 16 = h.2.1 0 16) (e3 : w.2.1 80 11 = h.2.1 80 11) (e4 : w.2.1 0 17 = w.2.1 80 52) (e5 : w.2.1 80 20 = 0) : ScS w := ⟨e1, e2.trans (k.2.1.trans e3.symm), e4, e5⟩
theorem ok5 : okV (-5) := Or.inr (Or.inr (Or.inr (Or.inr (Or.inl rfl))))
theorem ok6 : okV (-6) := Or.inr (Or.inr (Or.inr (Or.inr (Or.inr rfl))))
theorem PA0_T (p j : Nat) (h : PA0 p j = true) : PGT p j = true := PGT_of (Or.inl (PZc_Z p j (PA0_Zc p j h)))
theorem PB0_T (p j : Nat) (h : PB0 p j = true) : PGT p j = true := PGT_of (Or.inl (PZm_Z p j (PB0_Zm p j h)))
/-- no room: six laws are there -/
theorem bo_lawN {h : AH} {nb nm nh nl : Nat} (st : StS h) (k0 : Rel0 h nb nm nh nl) (z : nl = 6) : Bo h (f_X10_law S_1 0) (f_X11_law S_1 80) := by
  have k1 := k0.1
  have k4 := k0.2.2.1.2
  have k12 := k0.2.2.2.2.2.2.2.2.1
  obtain ⟨t, ht, t1, t2, t3⟩ := k0.2.2.2.2.2.2.2.1
  have b3 : h.2.1 82 3 = nI nl := k1.2.2.2.1.1
  have f12 : h.2.1 2 12 = nI nl := k4.1.2.2.2.1.trans b3
  obtain ⟨g0, hg0⟩ : ∃ g0, g0 = stI h 0 1 0 := ⟨_, rfl⟩
  obtain ⟨g, q1, e1, s1⟩ := q_refuse g0 (-5) ok5 (by decide)
  obtain ⟨w0, hw0⟩ : ∃ w0, w0 = stI (stI g 80 0 0) 80 13 0 := ⟨_, rfl⟩
  obtain ⟨w, q2, e2, s2⟩ := m_tell w0 (-5) ok5
  have F : ClF h g := by
    refine ClF.trans ?_ (ClF.of e1 fun p j => PA0_F)
    rw [hg0]
    exact (ClF.refl h).si (by decide)
  have M : MoF g w := by
    refine MoF.trans ?_ (MoF.of e2 fun p j => PB0_F)
    rw [hw0]
    exact ((MoF.refl g).si (by decide)).si (by decide)
  have E : Eqv PGT h w := by
    refine Eqv.trans ?_ (e2.mono PB0_T)
    rw [hw0]
    refine Eqv.si (Eqv.si ?_ (by rfl)) (by rfl)
    refine Eqv.trans ?_ (e1.mono PA0_T)
    rw [hg0]
    exact (Eqv.refl h).si (by rfl)
  have wv : ∀ p j, ¬ (p = 0 ∧ (j = 1 ∨ j = 14)) → p ≠ 53 → ¬ (p = 80 ∧ (j = 0 ∨ j = 1 ∨ j = 13)) → p ≠ 81 → w.2.1 p j = h.2.1 p j := fun p j h1 h2 h3 h4 => by
    rw [e2.i p j (decide_eq_false (by omega)), hw0, st_o (by omega), st_o (by omega), e1.i p j (decide_eq_false (by omega)), hg0, st_o (by omega)]
  have g82 : g.2.1 82 3 = nI nl := (F 82 3 (by omega) (by omega)).1.trans b3
  refine ⟨-5, g, w, ?_, ?_, st.both (ha := g0) (hb := w0) ?_ F s1 ?_ M s2, nb, nm, nh, nl, k0.tape E (fun p j hp => wv p j (by omega) (by omega) (by omega) (by omega)) ⟨0, by omega, ?_, ?_, fun j hj => ?_⟩ (k12.of ?_ ?_ ?_ ?_ ?_)⟩
  · unfold f_X10_law
    rw [bs_ (yr_0_2 h), bs_ (yi_2 h 12), f12, z, if_neg (by decide), bs_ (xi_0 h 1 _), ← hg0, bs_ (ck_0 g0), bs_ q1]
  · unfold f_X11_law
    rw [bs_ (pi80 g 0 _), bs_ (yr_80_3 _), bs_ (show aI S_1 (stI g 80 0 0) 82 (3 : Int32) = some ((stI g 80 0 0).2.1 82 3) from ai_82 (j := 3) _ (by decide)), st_o (by omega), g82, z, if_pos (show nI 6 = (6 : Int32) from rfl), bs_ (pi80 _ 13 _), ← hw0, bs_ (ck_80 w0), bs_ q2]
  · rw [hg0]
    funext j
    exact st_o (by omega)
  · rw [hw0]
    funext j
    rw [st_o (by omega), st_o (by omega)]
  · rw [(M.1 0 1 (by omega)).1, e1.i 0 1 rfl, hg0, stI_s]; rfl
  · rw [e2.i 80 13 rfl, hw0, stI_s]; rfl
  · rw [wv 1 j (by omega) (by omega) (by omega) (by omega), wv 89 j (by omega) (by omega) (by omega) (by omega)]
    exact t3 j hj
  · rw [wv 0 15 (by omega) (by omega) (by omega) (by omega), wv 80 18 (by omega) (by omega) (by omega) (by omega)]
    exact k12.1
  · exact wv 0 16 (by omega) (by omega) (by omega) (by omega)
  · exact wv 80 11 (by omega) (by omega) (by omega) (by omega)
  · rw [wv 0 17 (by omega) (by omega) (by omega) (by omega), wv 80 52 (by omega) (by omega) (by omega) (by omega)]
    exact k12.2.2.1
  · rw [wv 80 20 (by omega) (by omega) (by omega) (by omega)]
    exact k12.2.2.2
/-- it is no law -/
theorem bo_lawB {h : AH} {nb nm nh nl t n j : Nat} {b : Nat → Nat} (st : StS h) (k0 : Rel0 h nb nm nh nl) (z : nl < 6) (ht : t ≤ 400) (t1 : h.2.1 0 1 = nI t) (tmf : ∀ h', h'.2.1 80 13 = h.2.1 80 13 → h'.2.1 89 = h.2.1 89 → Tm h' b t) {h1 : AH} (tkn : TkN (tkK b t) n) (e1 : Eqv PRd h h1) (p46 : h1.2.1 46 3 = nI (n + 1)) (p48 : ∀ i, i ≤ n → h1.2.1 48 i = nI (stT b t i)) (r1 : f_X3_read S_1 45 1 (nI t) (1 : Int32) h = some (0, h1)) (v3 : h1.2.1 45 3 = nI j) (hj : j ≤ n) (er : textS (tkK b t) (tkU b t) false 12 0 noCo 0 0 = .inl j) : Bo h (f_X10_law S_1 0) (f_X11_law S_1 80) := by
  have k1 := k0.1
  have k4 := k0.2.2.1.2
  have k12 := k0.2.2.2.2.2.2.2.2.1
  obtain ⟨t', ht', t1', t2, t3⟩ := k0.2.2.2.2.2.2.2.1
  have b3 : h.2.1 82 3 = nI nl := k1.2.2.2.1.1
  have f12 : h.2.1 2 12 = nI nl := k4.1.2.2.2.1.trans b3
  have lt6 : nI nl < (6 : Int32) := by rw [show (6 : Int32) = nI 6 from rfl, nn_lt (by omega) (by decide)]; exact z
  obtain ⟨g0, hg0⟩ : ∃ g0, g0 = stI (stI h1 0 1 0) 0 15 (nI (stT b t j)) := ⟨_, rfl⟩
  obtain ⟨g, q1, e2, s1⟩ := q_refuse g0 (-6) ok6 (by decide)
  have F : ClF h g := by
    refine ClF.trans ?_ (ClF.of e2 fun p j => PA0_F)
    rw [hg0]
    exact ((ClF.of e1 fun p j => PRd_F).si (by decide)).si (by decide)
  obtain ⟨w0, H, e3, j3, v20, v13, re⟩ := m_lawRead (h := stI g 80 0 0) (tmf (stI g 80 0 0) ((st_o (by omega)).trans (F 80 13 (by omega) (by omega)).1) (funext fun i => (st_o (by omega)).trans (F 89 i (by omega) (by omega)).1)) tkn (show CnS g from CnS.cl (k0.2.2.2.2.2.2.2.2.2) F)
  rw [er] at re
  obtain ⟨u19, u18⟩ := re
  obtain ⟨w, q2, e4, s2⟩ := m_tell w0 (-6) ok6
  have M : MoF g w := by
    refine MoF.trans (MoF.trans ?_ (MoF.of e3 fun p j => PFb_F)) (MoF.of e4 fun p j => PB0_F)
    exact (MoF.refl g).si (by decide)
  have g20 : g.2.1 80 20 = 0 := (F 80 20 (by omega) (by omega)).1.trans k12.2.2.2
  have E3 : Eqv PGT (stI g 80 0 0) w0 := e3.less (fun p j => PFb_T) (v20.trans ((st_o (by omega)).trans g20).symm) j3
  have E : Eqv PGT h w := by
    refine Eqv.trans (Eqv.trans ?_ E3) (e4.mono PB0_T)
    refine Eqv.si ?_ (by rfl)
    refine Eqv.trans ?_ (e2.mono PA0_T)
    rw [hg0]
    exact Eqv.si (Eqv.si (e1.mono fun p j h => PZ_T p j (PRd_Z p j h)) (by rfl)) (by rfl)
  have wv : ∀ p j, ¬ (p = 0 ∧ (j = 1 ∨ j = 14 ∨ j = 15)) → ¬ (45 ≤ p ∧ p ≤ 53) → ¬ (p = 80 ∧ (j = 0 ∨ j = 1 ∨ 13 ≤ j ∧ j ≤ 30)) → p ≠ 81 → ¬ (90 ≤ p ∧ p ≤ 94) → p ≠ 108 → w.2.1 p j = h.2.1 p j := fun p j h1 h2 h3 h4 h5 h6 => by
    rw [e4.i p j (decide_eq_false (by omega)), e3.i p j (decide_eq_false (by omega)), st_o (by omega), e2.i p j (decide_eq_false (by omega)), hg0, st_o (by omega), st_o (by omega), e1.i p j (decide_eq_false (by omega))]
  have g82 : g.2.1 82 3 = nI nl := (F 82 3 (by omega) (by omega)).1.trans b3
  refine ⟨-6, g, w, ?_, ?_, st.both (ha := g0) (hb := w0) ?_ F s1 ?_ M s2, nb, nm, nh, nl, k0.tape E (fun p j hp => wv p j (by omega) (by omega) (by omega) (by omega) (by omega) (by omega)) ⟨0, by omega, ?_, ?_, fun j hj => ?_⟩ (k12.of ?_ ?_ ?_ ?_ ?_)⟩
  · have pl : f_X3_place S_1 45 (stI h1 0 1 0) = some (nI (stT b t j), stI h1 0 1 0) := q_place (n := n) ((st_o (by omega)).trans v3) hj tkn.1 ((st_o (by omega)).trans p46) ((st_o (by omega)).trans (p48 j hj))
    unfold f_X10_law
    rw [bs_ (yr_0_2 h), bs_ (yi_2 h 12), f12, if_pos lt6, bs_ (yr_0_12 h), bs_ (yr_0_0 h), bs_ (yi_0 h 1), t1, bs_ (ck_45 h), bs_ r1]
    dsimp only
    rw [bs_ (xi_0 h1 1 _), if_pos rfl, bs_ (yr_0_12 _), bs_ (ck_45 _), bs_ pl]
    dsimp only
    rw [bs_ (xi_0 _ 15 _), if_pos rfl, ← hg0, bs_ (ck_0 g0), bs_ q1]
  · unfold f_X11_law
    rw [bs_ (pi80 g 0 _), bs_ (yr_80_3 _), bs_ (show aI S_1 (stI g 80 0 0) 82 (3 : Int32) = some ((stI g 80 0 0).2.1 82 3) from ai_82 (j := 3) _ (by decide)), st_o (by omega), g82, if_neg (show ¬ nI nl = (6 : Int32) by rw [show (6 : Int32) = nI 6 from rfl, nn_eq (by omega) (by decide)]; omega), bs_ (ck_80 _)]
    refine (H lawJ).trans ?_
    unfold lawJ
    rw [bs_ (gi80 w0 19), u19, if_neg (by decide), bs_ (ck_80 w0), bs_ q2]
  · rw [hg0]
    funext i
    rw [st_o (by omega), st_o (by omega), e1.i 53 i (decide_eq_false (by omega))]
  · funext i
    rw [e3.i 81 i (decide_eq_false (by omega)), st_o (by omega)]
  · rw [(M.1 0 1 (by omega)).1, e2.i 0 1 rfl, hg0, st_o (by omega), stI_s]; rfl
  · rw [e4.i 80 13 rfl, v13]; rfl
  · rw [wv 1 _ (by omega) (by omega) (by omega) (by omega) (by omega) (by omega), wv 89 _ (by omega) (by omega) (by omega) (by omega) (by omega) (by omega)]
    exact t3 _ (by assumption)
  · rw [(M.1 0 15 (by omega)).1, e2.i 0 15 rfl, hg0, stI_s, e4.i 80 18 rfl, u18]
  · exact wv 0 16 (by omega) (by omega) (by omega) (by omega) (by omega) (by omega)
  · exact wv 80 11 (by omega) (by omega) (by omega) (by omega) (by omega) (by omega)
  · rw [wv 0 17 (by omega) (by omega) (by omega) (by omega) (by omega) (by omega), wv 80 52 (by omega) (by omega) (by omega) (by omega) (by omega) (by omega)]
    exact k12.2.2.1
  · rw [e4.i 80 20 rfl]
    exact v20
