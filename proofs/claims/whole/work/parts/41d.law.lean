/-! the call law: one that is kept -/
theorem OldE.r11 (h : AH) (k : Nat) (v : Option Nat) : OldE h (stR h 11 k v) := ⟨fun _ _ e => e, fun _ _ _ _ _ => rfl, fun q _ j l _ => RF_stR _ _ _ _ (by unfold LawP at l; omega)⟩
theorem OldE.mo {g w : AH} (M : MoF g w) : OldE g w := ⟨fun q _ e => (KD_of_k M.2.1 q).trans e, fun q _ j l _ => (M.1 q j (by unfold LawP at l; omega)).1, fun q _ j _ _ => by unfold RF; rw [M.2.2]⟩
theorem OldE.si {h h1 : AH} (o : OldE h h1) {p j : Nat} {v : Int32} (hp : ¬ LawP p) : OldE h (stI h1 p j v) := by
  refine o.trans ⟨fun _ _ e => e, fun q _ i l _ => ?_, fun _ _ _ _ _ => rfl⟩
  exact ri_p fun z => hp (by rw [← z]; exact l)
theorem noLaw {p : Nat} (h1 : p < 110) (h2 : ¬ (p = 12 ∨ p = 13 ∨ p = 14)) : ¬ LawP p := fun z => by
  unfold LawP at z
  omega
theorem q_sR {h : AH} {n p : Nat} (hn : n < 6) (kp : KD S_1 h p = some (0, 8)) : sR S_1 h 11 (nI n) p = some (stR h 11 n (some p)) := by
  unfold sR
  rw [KD_11]
  rw [tn_n (by omega)]
  show (if nI n < 0 ∨ 6 ≤ n ∨ ¬KD S_1 h p = some (0, 8) ∨ (S_1.2 11).isSome = true then none else some (stR h 11 n (some p))) = some (stR h 11 n (some p))
  rw [if_neg]
  rintro (z | z | z | z)
  · rw [z_lt (by omega)] at z; exact z
  · omega
  · exact z kp
  · exact absurd z (by decide)
theorem bo_lawG {h : AH} {nb nm nh nl t n m c : Nat} {b : Nat → Nat} {f : Nat → Co} (st : StS h) (k0 : Rel0 h nb nm nh nl) (z : nl < 6) (ht : t ≤ 400) (t1 : h.2.1 0 1 = nI t) (tmf : ∀ h', h'.2.1 80 13 = h.2.1 80 13 → h'.2.1 89 = h.2.1 89 → Tm h' b t) {h1 : AH} (tkn : TkN (tkK b t) n) (e1 : Eqv PRd h h1) (r1 : f_X3_read S_1 45 1 (nI t) (1 : Int32) h = some (1, h1)) (v2 : h1.2.1 50 2 = nI c) (hc : c ≤ 400) (v3 : h1.2.1 50 3 = nI m) (hm : m ≤ 12) (HX : ∀ y, y < m → HdF (h1.2.1 51) (h1.2.1 52) y (f y) c) (er : textS (tkK b t) (tkU b t) false 12 0 noCo 0 0 = .inr (m, f)) : Bo h (f_X10_law S_1 0) (f_X11_law S_1 80) := by
  obtain ⟨k1, k2, ⟨k3, k4⟩, ⟨k5, k6⟩, k7, ⟨k8, k9⟩, k10, k11, k12, k13⟩ := id k0
  obtain ⟨t', ht', t1', t2, t3⟩ := k11
  have b3 : h.2.1 82 3 = nI nl := k1.2.2.2.1.1
  have f12 : h.2.1 2 12 = nI nl := k4.1.2.2.2.1.trans b3
  have lt6 : nI nl < (6 : Int32) := by rw [show (6 : Int32) = nI 6 from rfl, nn_lt (by omega) (by decide)]; exact z
  obtain ⟨h3, hh3⟩ : ∃ h3, h3 = stI (stI h1 0 1 0) 0 15 (-1) := ⟨_, rfl⟩
  have E3 : Eqv PGT h h3 := by
    rw [hh3]
    exact Eqv.si (Eqv.si (e1.mono fun p j h => PZ_T p j (PRd_Z p j h)) (by rfl)) (by rfl)
  have s3 : ∀ p j, p ≠ 0 → h3.2.1 p j = h1.2.1 p j := fun p j hp => by rw [hh3, ri_p hp, ri_p hp]
  obtain ⟨p, h4, r4, cp⟩ := q_copied (h := h3) hc hm ((s3 _ _ (by decide)).trans v2) ((s3 _ _ (by decide)).trans v3)
  obtain ⟨cO, cI, cR, p110, kp, -⟩ := id cp
  obtain ⟨h5, hh5⟩ : ∃ h5, h5 = stR h4 11 nl (some p) := ⟨_, rfl⟩
  obtain ⟨h6, hh6⟩ : ∃ h6, h6 = stI h5 2 12 (nI (nl + 1)) := ⟨_, rfl⟩
  obtain ⟨g, q1, e7, s1⟩ := q_accept h6 (nI nl)
  have V0 : 0 ≤ nI nl := nI_pos' (by omega)
  have I5 : ∀ q j, q < 110 → h5.2.1 q j = h3.2.1 q j ∧ h5.2.2.1 q j = h3.2.2.1 q j := fun q j hq => by rw [hh5]; exact cI q j hq
  have I6 : ∀ q j, q < 110 → ¬ (q = 2 ∧ j = 12) → h6.2.1 q j = h3.2.1 q j := fun q j hq hne => by rw [hh6, st_o hne]; exact (I5 q j hq).1
  have L6 : ∀ q j, q < 110 → h6.2.2.1 q j = h3.2.2.1 q j := fun q j hq => by rw [hh6]; exact (I5 q j hq).2
  have F6 : ∀ q j, 80 ≤ q → q < 110 → h6.2.1 q j = h.2.1 q j ∧ h6.2.2.1 q j = h.2.2.1 q j := fun q j a b => by
    refine ⟨(I6 q j b (by omega)).trans ?_, (L6 q j b).trans ?_⟩
    · rw [s3 q j (by omega)]
      exact e1.i q j (decide_eq_false (by omega))
    · rw [hh3]
      exact e1.l q j (decide_eq_false (by omega))
  have F : ClF h g := ClF.trans F6 (ClF.of e7 fun p j => PA0_F)
  obtain ⟨w0, H, e8, j8, v20, v13, re⟩ := m_lawRead (h := stI g 80 0 0) (tmf (stI g 80 0 0) ((st_o (by omega)).trans (F 80 13 (by omega) (by omega)).1) (funext fun i => (st_o (by omega)).trans (F 89 i (by omega) (by omega)).1)) tkn (show CnS g from CnS.cl k13 F)
  rw [er] at re
  obtain ⟨u19, u18, u21, -, c', u23, hc', hs⟩ := re
  obtain ⟨L, hL⟩ : ∃ L, L = 90 + 900 * nl := ⟨_, rfl⟩
  have hL' : L ≤ 4590 := by omega
  have w82 : ∀ j, w0.2.1 82 j = h.2.1 82 j := fun j => (e8.i 82 j (decide_eq_false (by omega))).trans ((st_o (by omega)).trans (F 82 j (by omega) (by omega)).1)
  obtain ⟨w1, hw1⟩ : ∃ w1, w1 = stI w0 82 (L + 1) (nI m) := ⟨_, rfl⟩
  have x1 : ∀ p j, p ≠ 82 → w1.2.1 p j = w0.2.1 p j := fun p j hp => by rw [hw1, ri_p hp]
  obtain ⟨w2, r2, e9, o2, v2'⟩ := m_l110 hm hL' (8 * m) 0 FU w1 (by omega) (by unfold FU; omega) ((x1 _ _ (by decide)).trans u21)
  have x2 : ∀ p j, p ≠ 82 → w2.2.1 p j = w0.2.1 p j := fun p j hp => (e9.i p j (decide_eq_false hp)).trans (x1 p j hp)
  obtain ⟨w3, r3, e10, o3, v3'⟩ := m_l145 hc' hL' c' 0 FU w2 (by omega) (by unfold FU; omega) ((x2 _ _ (by decide)).trans u23)
  have x3 : ∀ p j, p ≠ 82 → w3.2.1 p j = w0.2.1 p j := fun p j hp => (e10.i p j (decide_eq_false hp)).trans (x2 p j hp)
  have y3 : ∀ j, j < L → w3.2.1 82 j = h.2.1 82 j := fun j hj => by
    rw [o3 j (by omega), o2 j (by omega), hw1, ri_k (by omega)]
    exact w82 j
  obtain ⟨w4, hw4⟩ : ∃ w4, w4 = stI w3 82 3 (nI (nl + 1)) := ⟨_, rfl⟩
  obtain ⟨w, q2, e11, s2⟩ := m_tell w4 (nI nl) (Or.inl V0)
  have x4 : ∀ p j, p ≠ 82 → w4.2.1 p j = w0.2.1 p j := fun p j hp => by rw [hw4, ri_p hp]; exact x3 p j hp
  have wr : ∀ j, w.2.1 82 j = if j = 3 then nI (nl + 1) else w3.2.1 82 j := fun j => by
    rw [e11.i 82 j rfl, hw4]
    by_cases e : j = 3
    · rw [e, stI_s, if_pos rfl]
    · rw [ri_k e, if_neg e]
  have wl : ∀ j, j < L → j ≠ 3 → w.2.1 82 j = h.2.1 82 j := fun j hj h3 => by rw [wr, if_neg h3]; exact y3 j hj
  have w3v : w.2.1 82 3 = nI (nl + 1) := by rw [wr, if_pos rfl]
  have M04 : MoF g w4 := by
    have a : MoF g w0 := MoF.trans ((MoF.refl g).si (by decide)) (MoF.of e8 fun p j => PFb_F)
    have P : ∀ p j, p < 80 ∨ 110 ≤ p → PRw82 p j = false := fun p j hp => decide_eq_false (by omega)
    have a1 : MoF g w1 := by rw [hw1]; exact a.si (by decide)
    have a3 : MoF g w3 := (a1.trans (MoF.of e9 P)).trans (MoF.of e10 P)
    rw [hw4]
    exact a3.si (by decide)
  have M : MoF g w := M04.trans (MoF.of e11 fun p j => PB0_F)
  have g20 : g.2.1 80 20 = 0 := (F 80 20 (by omega) (by omega)).1.trans k12.2.2.2
  have g82 : g.2.1 82 3 = nI nl := (F 82 3 (by omega) (by omega)).1.trans b3
  -- what the class has at the end
  have wc : ∀ p j, p < 80 → ¬ (p = 0 ∧ (j = 1 ∨ j = 14 ∨ j = 15)) → ¬ (45 ≤ p ∧ p ≤ 53) → ¬ (p = 2 ∧ j = 12) → w.2.1 p j = h.2.1 p j := fun p j a b c d => by
    rw [(M.1 p j (by omega)).1, e7.i p j (decide_eq_false (by omega)), I6 p j (by omega) d, hh3, st_o (by omega), st_o (by omega), e1.i p j (decide_eq_false (by omega))]
  have wrow : ∀ p, p < 80 → p ≠ 0 → p ≠ 2 → ¬ (45 ≤ p ∧ p ≤ 53) → w.2.1 p = h.2.1 p := fun p a b c d => funext fun j => wc p j a (by omega) d (by omega)
  have wm : ∀ p j, 80 ≤ p → p < 110 → p ≠ 81 → p ≠ 82 → ¬ (90 ≤ p ∧ p ≤ 94) → p ≠ 108 → ¬ (p = 80 ∧ (j = 0 ∨ j = 1 ∨ 13 ≤ j ∧ j ≤ 30)) → w.2.1 p j = h.2.1 p j := fun p j a b c d e f g => by
    rw [e11.i p j (decide_eq_false (by omega)), x4 p j d, e8.i p j (decide_eq_false (by omega)), st_o (by omega), (F p j a b).1]
  have wmr : ∀ p, 83 ≤ p → p < 110 → ¬ (90 ≤ p ∧ p ≤ 94) → p ≠ 108 → w.2.1 p = h.2.1 p := fun p a b c d => funext fun j => wm p j (by omega) b (by omega) (by omega) c d (by omega)
  -- the laws
  have O3 : OldE h h3 := OldE.of E3 fun q j l => PGT_no (PG_no (PZ_law q j l) (by unfold LawP at l; omega)) (by unfold LawP at l; omega)
  have O46 : OldE h4 h6 := by
    rw [hh6, hh5]
    exact (OldE.r11 h4 nl (some p)).si (noLaw (by decide) (by decide))
  have O6w : OldE h6 w := (OldE.of e7 fun q j l => decide_eq_false (by unfold LawP at l; omega)).trans (OldE.mo M)
  have O4 : OldE h4 w := O46.trans O6w
  have O : OldE h w := (O3.trans cO).trans O4
  have R : ∀ q i, q = 11 ∨ q = 63 ∨ q = 76 → RF S_1 w q i = if q = 11 ∧ i = nl then some p else RF S_1 h q i := fun q i hq => by
    have a : RF S_1 w q i = RF S_1 h5 q i := by
      have a1 : RF S_1 w q i = RF S_1 g q i := by unfold RF; rw [M.2.2]
      have a2 : RF S_1 g q i = RF S_1 h6 q i := e7.rf q i
      rw [a1, a2, hh6]
      rfl
    have a4 : RF S_1 h4 q i = RF S_1 h q i := by
      rw [cR q i (by omega)]
      exact E3.rf q i
    rw [a, hh5]
    by_cases e : q = 11
    · subst e
      rw [RF_11]
      show (if 11 = 11 ∧ i = nl then some p else h4.2.2.2 11 i) = _
      by_cases ei : i = nl
      · rw [if_pos ⟨rfl, ei⟩, if_pos ⟨rfl, ei⟩]
      · rw [if_neg (fun z => ei z.2), if_neg (fun z => ei z.2), ← a4, RF_11]
    · rw [RF_stR _ _ _ _ e, if_neg (fun z => e z.1), a4]
  have KK : ∀ y, y < m → 263 ≤ (f y).1 ∧ (f y).1 ≤ 265 ∧ ((f y).2.1.1 = none ↔ (f y).1 = 265) ∧ (f y).2.1.2.1 = none := fun y hy => (hs y hy).k
  obtain ⟨lx, fx⟩ := law_X hc hm cp (fun y hy => by
    have a := HX y hy
    rw [show h3.2.1 51 = h1.2.1 51 from funext fun j => s3 51 j (by decide), show h3.2.1 52 = h1.2.1 52 from funext fun j => s3 52 j (by decide)]
    exact a) KK
  have lr : LawR (w.2.1 82) L m (clO f) := law_R hc' hm hL' hs (by rw [wr, if_neg (by omega), o3 _ (by omega), o2 _ (by omega), hw1, stI_s]) (fun j hj => by
    rw [wr, if_neg (by omega), o3 _ (by omega), v2' j (by omega) hj]
    exact x1 90 j (by decide)) (fun j hj => by
    rw [wr, if_neg (by omega), wr, if_neg (by omega), (v3' j (by omega) hj).1, (v3' j (by omega) hj).2]
    exact ⟨x2 91 j (by decide), x2 92 j (by decide)⟩)
  have lo : ∀ j, j < 90 → j ≠ 3 → w.2.1 82 j = h.2.1 82 j := fun j hj h3 => wl j (by omega) h3
  refine ⟨nI nl, g, w, ?_, ?_, st.both (ha := h6) (hb := w4) ?_ F s1 ?_ M (s2.pos V0), nb, nm, nh, nl + 1, ?_, ?_, ⟨?_, ?_⟩, ⟨⟨fun i hi => ?_, fun i hi y hy => ?_⟩, ?_⟩, ?_, ⟨?_, ?_⟩, ?_, ?_, ?_, ?_⟩
  · unfold f_X10_law
    rw [bs_ (yr_0_2 h), bs_ (yi_2 h 12), f12, if_pos lt6, bs_ (yr_0_12 h), bs_ (yr_0_0 h), bs_ (yi_0 h 1), t1, bs_ (ck_45 h), bs_ r1]
    dsimp only
    rw [bs_ (xi_0 h1 1 _), if_neg (show ¬ (1 : Int32) = 0 by decide), bs_ (xi_0 _ 15 _), if_neg (show ¬ (1 : Int32) = 0 by decide), ← hh3, bs_ (yr_0_2 h3), bs_ (yi_2 h3 12), show h3.2.1 2 12 = nI nl from (s3 _ _ (by decide)).trans ((e1.i 2 12 rfl).trans f12), bs_ (yr_0_2 h3), bs_ (yr_2_13 h3), bs_ (yr_0_12 h3), bs_ (yr_45_1 h3), bs_ (ck_50 h3), bs_ r4]
    dsimp only
    rw [bs_ (q_sR z kp), ← hh5, bs_ (yr_0_2 h5), bs_ (yi_2 h5 12), show h5.2.1 2 12 = nI nl from (I5 2 12 (by decide)).1.trans ((s3 _ _ (by decide)).trans ((e1.i 2 12 rfl).trans f12)), nI_1, bs_ (xi_2 h5 12 _), ← hh6, bs_ (ck_0 h6), bs_ q1]
  · unfold f_X11_law
    rw [bs_ (pi80 g 0 _), bs_ (yr_80_3 _), bs_ (show aI S_1 (stI g 80 0 0) 82 (3 : Int32) = some ((stI g 80 0 0).2.1 82 3) from ai_82 (j := 3) _ (by decide)), st_o (by omega), g82, if_neg (show ¬ nI nl = (6 : Int32) by rw [show (6 : Int32) = nI 6 from rfl, nn_eq (by omega) (by decide)]; omega), bs_ (ck_80 _)]
    refine (H lawJ).trans ?_
    unfold lawJ
    rw [bs_ (gi80 w0 19), u19, if_pos rfl, bs_ (yr_80_3 w0), bs_ (show aI S_1 w0 82 (3 : Int32) = some (w0.2.1 82 3) from ai_82 (j := 3) _ (by decide)), w82, b3, show (90 : Int32) + (900 : Int32) * nI nl = nI L by rw [show (900 : Int32) * nI nl = nI (900 * nl) from pk_mul 900 nl, show (90 : Int32) = nI 90 from rfl, nI_add, hL], lt_e, bs_ (yr_80_3 w0), bs_ (gi80 w0 21), u21, nI_1, bs_ (si_82 w0 _ (by omega)), ← hw1, bs_ (show f_X11_law_l110 S_1 FU 80 (nI L) (0 : Int32) w1 = _ from r2)]
    dsimp only
    rw [bs_ (show f_X11_law_l145 S_1 FU 80 (nI L) (0 : Int32) w2 = _ from r3)]
    dsimp only
    rw [bs_ (yr_80_3 w3), bs_ (show aI S_1 w3 82 (3 : Int32) = some (w3.2.1 82 3) from ai_82 (j := 3) _ (by decide)), y3 3 (by omega), b3, nI_1, bs_ (show sI S_1 w3 82 (3 : Int32) (nI (nl + 1)) = some (stI w3 82 3 (nI (nl + 1))) from si_82 (j := 3) w3 _ (by decide)), ← hw4, bs_ (yr_80_3 w4), bs_ (show aI S_1 w4 82 (3 : Int32) = some (w4.2.1 82 3) from ai_82 (j := 3) _ (by decide)), show w4.2.1 82 3 = nI (nl + 1) by rw [hw4, stI_s], bs_ (ck_80 w4), show nI (nl + 1) - (1 : Int32) = nI nl from nI_m1, bs_ q2]
  · funext i
    rw [I6 53 i (by decide) (by omega), s3 53 i (by decide), e1.i 53 i (decide_eq_false (by omega))]
  · funext i
    rw [x4 81 i (by decide), e8.i 81 i (decide_eq_false (by omega)), st_o (by omega)]
  · obtain ⟨a1, a2, a3, a4, a5, a6, a7, a8, a9, b1, b2⟩ := k1
    have h6 := a2.2
    refine ⟨⟨(lo _ (by omega) (by omega)).trans a1.1, a1.2⟩, ⟨(lo _ (by omega) (by omega)).trans a2.1, a2.2⟩, ⟨(lo _ (by omega) (by omega)).trans a3.1, a3.2⟩, ⟨w3v, by omega⟩, ?_, by rw [lo _ (by omega) (by omega), lo _ (by omega) (by omega), lo _ (by omega) (by omega)]; exact a6, fun j hj => by rw [lo _ (by omega) (by omega)]; exact a7 j hj, fun j hj => by rw [lo _ (by omega) (by omega)]; exact a8 j hj, fun j hj => by rw [lo _ (by omega) (by omega)]; exact a9 j hj, fun j hj => by rw [lo _ (by omega) (by omega)]; exact b1 j hj, fun j hj => by rw [lo _ (by omega) (by omega)]; exact b2 j hj⟩
    rw [lo _ (by omega) (by omega)]
    rcases a5 with a5 | ⟨i, hi, a5⟩
    · exact Or.inl a5
    · exact Or.inr ⟨i, by omega, a5⟩
  · exact k2.of fun j hj => lo j (by omega) (by omega)
  · exact (k3.rows (wrow 3 (by decide) (by decide) (by decide) (by decide)) (wrow 4 (by decide) (by decide) (by decide) (by decide)) (wrow 5 (by decide) (by decide) (by decide) (by decide))).of fun j hj => lo j (by omega) (by omega)
  · obtain ⟨⟨r0, r1, r2, r3, r4, r6, r7, r8⟩, hra, hfa, hcl, hri, hhe⟩ := k4
    have c2 : ∀ j, j ≠ 12 → w.2.1 2 j = h.2.1 2 j := fun j hj => wc 2 j (by decide) (by omega) (by decide) (by omega)
    have row2 : ∀ p, 4 ≤ p → p ≤ 10 → w.2.1 p = h.2.1 p := fun p a b => wrow p (by omega) (by omega) (by omega) (by omega)
    refine ⟨⟨(c2 _ (by decide)).trans (r0.trans (lo _ (by omega) (by omega)).symm), (c2 _ (by decide)).trans (r1.trans (lo _ (by omega) (by omega)).symm), (c2 _ (by decide)).trans (r2.trans (lo _ (by omega) (by omega)).symm), ?_, (c2 _ (by decide)).trans (r4.trans (lo _ (by omega) (by omega)).symm), (c2 _ (by decide)).trans (r6.trans (lo _ (by omega) (by omega)).symm), (c2 _ (by decide)).trans (r7.trans (lo _ (by omega) (by omega)).symm), (c2 _ (by decide)).trans (r8.trans (lo _ (by omega) (by omega)).symm)⟩, fun j hj => ?_, fun j hj => ?_, fun j hj => ?_, fun j hj => ?_, fun j hj => ?_⟩
    · rw [w3v, (M.1 2 12 (by omega)).1, e7.i 2 12 rfl, hh6, stI_s]
    · rw [row2 _ (by omega) (by omega), lo _ (by omega) (by omega)]; exact hra j hj
    · rw [row2 _ (by omega) (by omega), lo _ (by omega) (by omega)]; exact hfa j hj
    · rw [row2 _ (by omega) (by omega), lo _ (by omega) (by omega)]; exact hcl j hj
    · rw [row2 _ (by omega) (by omega), lo _ (by omega) (by omega)]; exact hri j hj
    · rw [row2 _ (by omega) (by omega), lo _ (by omega) (by omega)]; exact hhe j hj
  · by_cases ei : i = nl
    · subst ei
      refine ⟨p, m, clO f, by rw [R 11 _ (Or.inl rfl), if_pos ⟨rfl, rfl⟩], lx.to fx O4, fx.to lx.2.1 O4, ?_⟩
      rw [← hL]
      exact lr
    · obtain ⟨p', n', f', a, b, c, d⟩ := k5.1 i (by omega)
      refine ⟨p', n', f', by rw [R 11 _ (Or.inl rfl), if_neg (fun z => ei z.2)]; exact a, b.to c O, c.to b.2.1 O, d.cong (by omega) fun j hj => wl _ (by omega) (by omega)⟩
  · rw [R 11 i (Or.inl rfl)] at hy
    by_cases ei : i = nl
    · rw [if_pos ⟨rfl, ei⟩] at hy
      injection hy with hy
      rw [← hy]
      exact O4.1 _ _ kp
    · rw [if_neg (fun z => ei z.2)] at hy
      exact O.1 _ _ (k5.2 i hi y hy)
  · exact (wc 12 3 (by decide) (by omega) (by omega) (by omega)).trans k6
  · rw [wrow 17 (by decide) (by decide) (by decide) (by decide), wrow 18 (by decide) (by decide) (by decide) (by decide), wc 16 2 (by decide) (by omega) (by omega) (by omega), wc 16 3 (by decide) (by omega) (by omega) (by omega), wmr 85 (by decide) (by decide) (by decide) (by decide), wmr 86 (by decide) (by decide) (by decide) (by decide), wm 80 8 (by decide) (by decide) (by decide) (by decide) (by decide) (by decide) (by decide)]
    exact k7.cong rfl rfl (fun _ _ => rfl) rfl (lo 6 (by decide) (by decide)) (lo 7 (by decide) (by decide)) (lo 8 (by decide) (by decide))
  · exact k8.to (by decide) O (fun p h1 h2 => wrow p (by omega) (by omega) (by omega) (by omega)) (wmr 83 (by decide) (by decide) (by decide) (by decide)) (wmr 84 (by decide) (by decide) (by decide) (by decide)) fun i => by rw [R 63 i (by omega), if_neg (by omega)]
  · exact k9.to (by decide) O (fun p h1 h2 => wrow p (by omega) (by omega) (by omega) (by omega)) (wmr 83 (by decide) (by decide) (by decide) (by decide)) (wmr 84 (by decide) (by decide) (by decide) (by decide)) fun i => by rw [R 76 i (by omega), if_neg (by omega)]
  · unfold MyS
    rw [wm 80 56 (by decide) (by decide) (by decide) (by decide) (by decide) (by decide) (by decide), wm 80 57 (by decide) (by decide) (by decide) (by decide) (by decide) (by decide) (by decide), wrow 28 (by decide) (by decide) (by decide) (by decide), wrow 29 (by decide) (by decide) (by decide) (by decide), wrow 30 (by decide) (by decide) (by decide) (by decide), wrow 31 (by decide) (by decide) (by decide) (by decide), wmr 109 (by decide) (by decide) (by decide) (by decide)]
    exact k10
  · refine ⟨0, by omega, ?_, ?_, fun j hj => ?_⟩
    · rw [(M.1 0 1 (by omega)).1, e7.i 0 1 rfl, I6 0 1 (by decide) (by decide), hh3, st_o (by decide), stI_s]; rfl
    · rw [e11.i 80 13 rfl, x4 80 13 (by decide), v13]; rfl
    · rw [wc 1 j (by decide) (by omega) (by omega) (by omega), wm 89 j (by decide) (by decide) (by decide) (by decide) (by decide) (by decide) (by omega)]
      exact t3 j hj
  · refine k12.of ?_ ?_ ?_ ?_ ?_
    · rw [(M.1 0 15 (by omega)).1, e7.i 0 15 rfl, I6 0 15 (by decide) (by decide), hh3, stI_s, e11.i 80 18 rfl, x4 80 18 (by decide), u18]
    · exact wc 0 16 (by decide) (by decide) (by decide) (by decide)
    · exact wm 80 11 (by decide) (by decide) (by decide) (by decide) (by decide) (by decide) (by decide)
    · rw [wc 0 17 (by decide) (by decide) (by decide) (by decide), wm 80 52 (by decide) (by decide) (by decide) (by decide) (by decide) (by decide) (by decide)]
      exact k12.2.2.1
    · rw [e11.i 80 20 rfl, x4 80 20 (by decide)]
      exact v20
  · intro q hq
    rw [← k13 q hq]
    funext j
    rw [e11.l q j (decide_eq_false (by omega)), hw4]
    show w3.2.2.1 q j = _
    rw [e10.l q j (decide_eq_false (by omega)), e9.l q j (decide_eq_false (by omega)), hw1]
    show w0.2.2.1 q j = _
    rw [e8.l q j (decide_eq_false (by omega))]
    exact (F q j (by omega) (by omega)).2
theorem bo_law {h : AH} (k : Rel h) : Bo h (f_X10_law S_1 0) (f_X11_law S_1 80) := by
  obtain ⟨st, nb, nm, nh, nl, k0⟩ := id k
  have n6 := k0.1.2.2.2.1.2
  by_cases z : nl = 6
  · exact bo_lawN st k0 z
  · obtain ⟨t, b, ht, t1, tp, tmf⟩ := k0.2.2.2.2.2.2.2.1.bytes
    obtain ⟨h1, n, tkn, e1, ⟨p46, p48⟩, q⟩ := q_read tp ht false
    cases er : textS (tkK b t) (tkU b t) false 12 0 noCo 0 0 with
    | inl j =>
      rw [er] at q
      obtain ⟨r1, v3, hj⟩ := q
      exact bo_lawB st k0 (by omega) ht t1 tmf tkn e1 p46 p48 r1 v3 hj er
    | inr x =>
      obtain ⟨m, f⟩ := x
      rw [er] at q
      obtain ⟨c, r1, v2, hc, v3, -, hm, hh⟩ := q
      exact bo_lawG st k0 (by omega) ht t1 tmf tkn e1 r1 v2 hc v3 hm hh er
