/-! what MAY be: both sides -/
def PBe (p j : Nat) : Bool := PMy p j || decide (p = 28)
theorem PMy_Be (p j : Nat) (h : PMy p j = true) : PBe p j = true := by unfold PBe; rw [h]; rfl
theorem PBe_28 (j : Nat) : PBe 28 j = true := by unfold PBe; rw [Bool.or_eq_true]; exact Or.inr rfl
theorem PBe_no {p j : Nat} (h : p < 28 ∨ 35 < p) : PBe p j = false := by
  unfold PBe
  rw [PMy_no h, decide_eq_false (by omega)]
  rfl
theorem PBe_o (q j : Nat) (h : q = 2 ∨ 6 ≤ q ∧ q ≤ 10 ∨ LawP q) : PBe q j = false := PBe_no (by unfold LawP at h; omega)
theorem PMy_Y (p j : Nat) (h : PMy p j = true) : PGY p j = true := by
  unfold PMy PSt at h
  rw [Bool.or_eq_true, Bool.or_eq_true] at h
  rcases h with (h | h) | h
  · exact PGY_of (Or.inl (PX_Z p j h))
  · have h := of_decide_eq_true h
    exact PGY_of (Or.inr (by omega))
  · have h := of_decide_eq_true h
    exact PGY_of (Or.inr (by omega))
theorem PBe_Y (p j : Nat) (h : PBe p j = true) : PGY p j = true := by
  unfold PBe at h
  rw [Bool.or_eq_true] at h
  rcases h with h | h
  · exact PMy_Y p j h
  · have h := of_decide_eq_true h
    exact PGY_of (Or.inr (by omega))
theorem PSd29_Be (p j : Nat) (h : PSd 29 p j = true) : PBe p j = true := by
  have h := of_decide_eq_true h
  refine PMy_Be p j (PSt_My p j ?_)
  unfold PSt
  rw [Bool.or_eq_true]
  exact Or.inr (decide_eq_true (by omega))
theorem q_begin {h : AH} {r : Nat → Int32} {p n nb nm : Nat} {f : Nat → Cl} (ct : Ct h 3 r p n f nb nm) (x : Int32) : ∃ h', f_X2_begin S_1 28 2 x h = some ((), h') ∧ Eqv PBe h h' ∧ Ct h' 29 r p n f nb nm ∧ h'.2.1 28 1 = nI nb ∧ h'.2.1 28 2 = nI nm ∧ h'.2.1 28 3 = x := by
  obtain ⟨g, q1, e1, s1⟩ := q_become SdP_29 SdP_3 (by omega) h
  have E1 : Eqv PBe h g := e1.mono PSd29_Be
  have E : Eqv PBe h (stI (stI (stI g 28 1 (nI nb)) 28 2 (nI nm)) 28 3 x) := ((E1.si (PBe_28 _)).si (PBe_28 _)).si (PBe_28 _)
  have ro : ∀ q, q ≠ 28 → (stI (stI (stI g 28 1 (nI nb)) 28 2 (nI nm)) 28 3 x).2.1 q = g.2.1 q := fun q hq => funext fun j => (ri_p hq).trans ((ri_p hq).trans (ri_p hq))
  have b1 : g.2.1 2 1 = nI nb := (E1.i 2 1 rfl).trans (ct.2.2.1.1.1.trans ct.2.2.2.2.2.1)
  have b2 : g.2.1 2 4 = nI nm := (E1.i 2 4 rfl).trans (ct.2.2.1.1.2.1.trans ct.2.2.2.2.2.2.2.1)
  refine ⟨stI (stI (stI g 28 1 (nI nb)) 28 2 (nI nm)) 28 3 x, ?_, E, ct.mv (Or.inr (Or.inr (Or.inl rfl))) E PBe_o ((s1 r ct.2.1).rows (ro _ (by decide)) (ro _ (by decide)) (ro _ (by decide))) (Ag.refl r), ?_, ?_, stI_s _ _ _ _⟩
  · unfold f_X2_begin
    simp (disch := first | rfl | decide | omega | (simp (disch := first | omega | decide) only [nI_l1, nI_l2, nI_l3, nI_l4, nI_add, nI_mul_]; exact ix_n (by omega) (by omega)) | (exact ix_n (by omega) (by omega)) | (exact ix_l (by decide) (by decide)) | assumption) only [bs_ q1, b1, b2, ↓zI, ↓zP, ↓zZ, ↓zC, ↓zJ, ↓zQ, ↓zE, ↓zK, ↓zF, ↓zD, ↓zr_0_0, ↓zr_0_2, ↓zr_0_3, ↓zr_0_4, ↓zr_0_5, ↓zr_0_6, ↓zr_0_7, ↓zr_0_8, ↓zr_0_9, ↓zr_0_10, ↓zr_0_11, ↓zr_0_12, ↓zr_0_13, ↓zr_2_0, ↓zr_2_2, ↓zr_2_3, ↓zr_2_5, ↓zr_2_6, ↓zr_2_11, ↓zr_2_13, ↓zr_2_14, ↓zr_3_0, ↓zr_3_1, ↓zr_12_0, ↓zr_12_1, ↓zr_16_0, ↓zr_16_1, ↓zr_19_0, ↓zr_19_1, ↓zr_22_0, ↓zr_22_1, ↓zr_25_0, ↓zr_25_1, ↓zr_28_0, ↓zr_29_0, ↓zr_29_1, ↓zr_32_0, ↓zr_32_1, ↓zr_35_0, ↓zr_35_1, ↓zr_35_4, ↓zr_35_5, ↓zr_38_0, ↓zr_38_1, ↓zr_38_2, ↓zr_38_3, ↓zr_38_4, ↓zr_39_0, ↓zr_39_1, ↓zr_45_0, ↓zr_45_1, ↓zr_46_0, ↓zr_46_1, ↓zr_46_2, ↓zr_50_0, ↓zr_50_1, ↓zr_54_0, ↓zr_54_2, ↓zr_54_3, ↓zr_54_5, ↓zr_54_6, ↓zr_54_11, ↓zr_54_13, ↓zr_54_14, ↓zr_55_0, ↓zr_55_1, ↓zr_64_0, ↓zr_64_1, ↓zr_67_0, ↓zr_67_2, ↓zr_67_3, ↓zr_67_5, ↓zr_67_6, ↓zr_67_11, ↓zr_67_13, ↓zr_67_14, ↓zr_68_0, ↓zr_68_1, ↓zr_77_0, ↓zr_77_1, ↓zr_80_2, ↓zr_80_3, ↓zr_80_4, ↓zr_80_5, ↓zr_80_6, ↓zr_80_7, ↓zr_80_9, ↓zr_80_10, ↓zr_80_12, ↓zr_80_22, ↓zr_80_24, ↓zr_80_25, ↓zr_80_27, ↓zr_80_28, ↓zr_80_31, ↓zr_80_32, ↓zr_80_33, ↓zr_80_35, ↓zr_80_36, ↓zr_80_37, ↓zr_80_41, ↓zr_80_42, ↓zr_80_43, ↓zr_80_44, ↓zr_80_46, ↓zr_80_47, ↓zr_80_48, ↓zr_80_49, ↓zr_80_55, ↓za_1, ↓zs_1, ↓zl_1, ↓za_4, ↓zs_4, ↓zl_4, ↓za_5, ↓zs_5, ↓zl_5, ↓za_6, ↓zs_6, ↓zl_6, ↓za_7, ↓zs_7, ↓zl_7, ↓za_8, ↓zs_8, ↓zl_8, ↓za_9, ↓zs_9, ↓zl_9, ↓za_10, ↓zs_10, ↓zl_10, ↓za_17, ↓zs_17, ↓zl_17, ↓za_18, ↓zs_18, ↓zl_18, ↓za_20, ↓zs_20, ↓zl_20, ↓za_21, ↓zs_21, ↓zl_21, ↓za_23, ↓zs_23, ↓zl_23, ↓za_24, ↓zs_24, ↓zl_24, ↓za_26, ↓zs_26, ↓zl_26, ↓za_27, ↓zs_27, ↓zl_27, ↓za_30, ↓zs_30, ↓zl_30, ↓za_31, ↓zs_31, ↓zl_31, ↓za_33, ↓zs_33, ↓zl_33, ↓za_34, ↓zs_34, ↓zl_34, ↓za_36, ↓zs_36, ↓zl_36, ↓za_37, ↓zs_37, ↓zl_37, ↓za_40, ↓zs_40, ↓zl_40, ↓za_41, ↓zs_41, ↓zl_41, ↓za_42, ↓zs_42, ↓zl_42, ↓za_43, ↓zs_43, ↓zl_43, ↓za_44, ↓zs_44, ↓zl_44, ↓za_47, ↓zs_47, ↓zl_47, ↓za_48, ↓zs_48, ↓zl_48, ↓za_49, ↓zs_49, ↓zl_49, ↓za_51, ↓zs_51, ↓zl_51, ↓za_52, ↓zs_52, ↓zl_52, ↓za_53, ↓zs_53, ↓zl_53, ↓za_56, ↓zs_56, ↓zl_56, ↓za_57, ↓zs_57, ↓zl_57, ↓za_58, ↓zs_58, ↓zl_58, ↓za_59, ↓zs_59, ↓zl_59, ↓za_60, ↓zs_60, ↓zl_60, ↓za_61, ↓zs_61, ↓zl_61, ↓za_62, ↓zs_62, ↓zl_62, ↓za_69, ↓zs_69, ↓zl_69, ↓za_70, ↓zs_70, ↓zl_70, ↓za_71, ↓zs_71, ↓zl_71, ↓za_72, ↓zs_72, ↓zl_72, ↓za_73, ↓zs_73, ↓zl_73, ↓za_74, ↓zs_74, ↓zl_74, ↓za_75, ↓zs_75, ↓zl_75, ↓za_81, ↓zs_81, ↓zl_81, ↓za_82, ↓zs_82, ↓zl_82, ↓za_83, ↓zs_83, ↓zl_83, ↓za_84, ↓zs_84, ↓zl_84, ↓za_85, ↓zs_85, ↓zl_85, ↓za_86, ↓zs_86, ↓zl_86, ↓za_87, ↓zs_87, ↓zl_87, ↓za_88, ↓zs_88, ↓zl_88, ↓za_89, ↓zs_89, ↓zl_89, ↓za_90, ↓zs_90, ↓zl_90, ↓za_91, ↓zs_91, ↓zl_91, ↓za_92, ↓zs_92, ↓zl_92, ↓za_93, ↓zs_93, ↓zl_93, ↓za_94, ↓zs_94, ↓zl_94, ↓za_95, ↓zs_95, ↓zl_95, ↓za_96, ↓zs_96, ↓zl_96, ↓za_97, ↓zs_97, ↓zl_97, ↓za_98, ↓zs_98, ↓zl_98, ↓za_99, ↓zs_99, ↓zl_99, ↓za_100, ↓zs_100, ↓zl_100, ↓za_101, ↓zs_101, ↓zl_101, ↓za_102, ↓zs_102, ↓zl_102, ↓za_103, ↓zs_103, ↓zl_103, ↓za_104, ↓zs_104, ↓zl_104, ↓za_105, ↓zs_105, ↓zl_105, ↓za_106, ↓zs_106, ↓zl_106, ↓za_107, ↓zs_107, ↓zl_107, ↓za_108, ↓zs_108, ↓zl_108, ↓za_109, ↓zs_109, ↓zl_109, hand_id, n01, n05, ob, Nat.zero_le, Nat.not_lt_zero, i10, i01, i12, i21, i20, i02, nl_le1, nl_le2, nl_lt1, nl_lt2, nl_eq1, nl_eq2, nn_le, nn_lt, nn_eq, nl_m1, m1_nl, z_lt, z_le, z_le2, z_lt2, z_eq, nI_l1, nI_l2, nI_l3, nI_l4, nI_add, nI_mul_, tn_n, tn_l, bI_0, bI_1, bI_z, bI_t, bI_f, Bool.false_eq_true, Bool.true_eq_false, eq_self, if_true, if_false, ↓reduceIte, reduceCtorEq, not_true_eq_false, not_false_eq_true, stI_s, stJ_s, ri_p, ri_k, ri_j, ri_1, ri_2, rj_i, rj_1, rj_2, rj_p, rj_k]
  · rw [ri_k (by decide), ri_k (by decide), stI_s]
  · rw [ri_k (by decide), stI_s]
def PGYm (p j : Nat) : Bool := PGY p j && decide (80 ≤ p ∧ p < 110 ∧ p ≠ 81)
theorem PGYm_of {p j : Nat} (h : PZ p j = true ∨ (28 ≤ p ∧ p ≤ 31 ∨ p = 82 ∧ j < 90 ∨ p = 109 ∨ p = 80 ∧ (j = 56 ∨ j = 57))) (h2 : 80 ≤ p ∧ p < 110 ∧ p ≠ 81) : PGYm p j = true := by
  unfold PGYm
  rw [PGY_of h, decide_eq_true h2]
  rfl
theorem PGYm_Y (p j : Nat) (h : PGYm p j = true) : PGY p j = true := by
  unfold PGYm at h
  rw [Bool.and_eq_true] at h
  exact h.1
theorem PGYm_F {p j : Nat} (h : p < 80 ∨ 110 ≤ p) : PGYm p j = false := by
  unfold PGYm
  rw [decide_eq_false (show ¬ (80 ≤ p ∧ p < 110 ∧ p ≠ 81) by omega), Bool.and_false]
theorem PGYm_81 (j : Nat) : PGYm 81 j = false := by
  unfold PGYm
  rw [decide_eq_false (show ¬ (80 ≤ 81 ∧ 81 < 110 ∧ 81 ≠ 81) by omega), Bool.and_false]
theorem PMm_Ym (p j : Nat) (h : PMm p j = true) : PGYm p j = true := by
  unfold PMm at h
  rw [Bool.or_eq_true] at h
  rcases h with h | h
  · exact PGYm_of (Or.inl (PT_Z p j h)) (by have := of_decide_eq_true h; omega)
  · have h := of_decide_eq_true h
    rcases h with ⟨rfl, h⟩ | ⟨rfl, rfl⟩
    · exact PGYm_of (by omega) (by omega)
    · exact PGYm_of (Or.inl rfl) (by omega)
/-- the other side, where it is done -/
theorem m_mays {h : AH} {n nb nm sd N : Nat} {f : Nat → Cl} (cm : CM h n f nb nm) (hnb : 0 < nb) (hnm : 0 < nm) (hN : N ≤ 60) (hsd : sd ≤ 1000000) (hR : ∀ j, j < 6 → rg (h.2.1 82 (78 + j)) 0 9) : ∃ V w7 w8, 0 ≤ V ∧ V = fo (rsS (mayL n f nb nm N (h.2.1 82, sd)).1) 0 nm 0 ∧ (((f_X11_keepAll S_1 80 16 (stI h 80 0 0)).bind fun z => (pJ S_1 z.2 80 11 54 (Int32.toInt64 (nI sd))).bind fun h_28 => (f_X11_mays_l74 S_1 FU 80 (nI N) (0 : Int32) h_28).bind fun z => f_X11_mays_j226 S_1 z.1 z.2) = some (V, w8)) ∧ Eqv PGYm h w7 ∧ w7.2.1 82 = h.2.1 82 ∧ Eqv PB0 w7 w8 ∧ StM w7 w8 V ∧ w7.2.1 80 56 = nI nb ∧ w7.2.1 80 57 = nI nm ∧ ∀ j, j < 18 → w7.2.1 109 j = (mayL n f nb nm N (h.2.1 82, sd)).1 (5 + j) := by
  have h6 := cm.2.2.2.2.2
  obtain ⟨R, hRd⟩ : ∃ R, R = (mayL n f nb nm N (h.2.1 82, sd)).1 := ⟨_, rfl⟩
  obtain ⟨w1, q1, c1⟩ := m_keepAll (stI h 80 0 0) (k := 16) (by decide)
  have w1r : w1.2.1 82 = h.2.1 82 := (c1.row (by decide)).trans (funext fun j => ri_p (by decide))
  have E1 : Eqv PGYm h w1 := ((Eqv.refl h).si rfl).trans (c1.eq fun j h1 h2 => PGYm_of (Or.inl (decide_eq_true (by omega))) (by omega))
  have E2 : Eqv PGYm h (stJ w1 80 54 (lJ sd)) := E1.sj rfl
  have cm2 : CM (stJ w1 80 54 (lJ sd)) n f nb nm := cm.z w1r ((c1.n (by decide)).trans (ri_k (by decide)))
  obtain ⟨w3, q3, e3, r3, ag3⟩ := m_mloop hnb hnm hN N 0 FU (stJ w1 80 54 (lJ sd)) sd (by omega) (by unfold FU; omega) cm2 (stJ_s _ _ _ _) (by omega)
  replace r3 : w3.2.1 82 = R := by
    rw [r3, hRd]
    show (mayL n f nb nm N (w1.2.1 82, sd)).1 = _
    rw [w1r]
  replace ag3 : Ag (h.2.1 82) (w3.2.1 82) := fun j h1 h2 => (ag3 j h1 h2).trans (congrFun w1r j)
  have E3 := E2.trans (e3.mono PMm_Ym)
  have a0 : w3.2.1 82 0 = nI nb := (ag3 0 (by omega) (by omega)).trans cm.2.2.1
  have a1 : w3.2.1 82 1 = nI nm := (ag3 1 (by omega) (by omega)).trans cm.2.2.2.2.1
  have q4 := m_msum h6 a1 nm 0 FU 0 (by omega) (by unfold FU; omega)
  rw [r3] at q4
  obtain ⟨u, hu, eV⟩ := rs_pos (r := R) (fun j hj => by
    rw [← r3, ag3 (78 + j) (by omega) (by omega)]
    exact hR j hj) nm 0 0 (by omega)
  obtain ⟨V, hV⟩ : ∃ V, V = fo (rsS R) 0 nm 0 := ⟨_, rfl⟩
  have V0 : 0 ≤ V := by
    rw [hV]
    show 0 ≤ fo (rsS R) 0 nm (nI 0)
    rw [eV]
    exact nI_pos' (by omega)
  rw [← hV] at q4
  obtain ⟨w5, q5, c5⟩ := m_mcopy w3 V
  have a5 : w5.2.1 82 = w3.2.1 82 := c5.row (by decide)
  have E5 := E3.trans (c5.eq (P := PGYm) fun j _ _ => PGYm_of (by omega) (by omega))
  obtain ⟨w6, hw6⟩ : ∃ w6, w6 = stI (stI w5 80 56 (nI nb)) 80 57 (nI nm) := ⟨_, rfl⟩
  have E6 : Eqv PGYm h w6 := by
    rw [hw6]
    exact (E5.si (PGYm_of (by omega) (by omega))).si (PGYm_of (by omega) (by omega))
  have o6 : ∀ p j, p ≠ 80 → w6.2.1 p j = w5.2.1 p j := fun p j hp => by rw [hw6, ri_p hp, ri_p hp]
  obtain ⟨w7, q7, c7⟩ := m_putBack w6 (k := 16) (by decide)
  have E7 := E6.trans (c7.eq (P := PGYm) fun j _ _ => PGYm_of (by omega) (by omega))
  obtain ⟨w8, q8, e8, s8⟩ := m_tell w7 V (Or.inl V0)
  refine ⟨V, w7, w8, V0, by rw [hV, hRd], ?_, E7, ?_, e8, s8, ?_, ?_, fun j hj => ?_⟩
  · rw [bs_ (show f_X11_keepAll S_1 80 16 (stI h 80 0 0) = _ from q1)]
    dsimp only
    rw [bs_ (show pJ S_1 w1 80 11 54 (Int32.toInt64 (nI sd)) = some (stJ w1 80 54 (lJ sd)) from rfl), bs_ (show f_X11_mays_l74 S_1 FU 80 (nI N) (0 : Int32) _ = _ from q3)]
    dsimp only
    unfold f_X11_mays_j226
    simp (disch := first | rfl | decide | omega | (simp (disch := first | omega | decide) only [nI_l1, nI_l2, nI_l3, nI_l4, nI_add, nI_mul_]; exact ix_n (by omega) (by omega)) | (exact ix_n (by omega) (by omega)) | (exact ix_l (by decide) (by decide)) | assumption) only [bs_ (show f_X11_mays_l231 S_1 FU 80 (0 : Int32) (0 : Int32) w3 = _ from q4), bs_ q5, a5, a0, a1, ← hw6, bs_ (show f_X11_putBack S_1 80 (16 : Int32) w6 = _ from q7), bs_ q8, q8, ↓zI, ↓zP, ↓zZ, ↓zC, ↓zJ, ↓zQ, ↓zE, ↓zK, ↓zF, ↓zD, ↓zr_0_0, ↓zr_0_2, ↓zr_0_3, ↓zr_0_4, ↓zr_0_5, ↓zr_0_6, ↓zr_0_7, ↓zr_0_8, ↓zr_0_9, ↓zr_0_10, ↓zr_0_11, ↓zr_0_12, ↓zr_0_13, ↓zr_2_0, ↓zr_2_2, ↓zr_2_3, ↓zr_2_5, ↓zr_2_6, ↓zr_2_11, ↓zr_2_13, ↓zr_2_14, ↓zr_3_0, ↓zr_3_1, ↓zr_12_0, ↓zr_12_1, ↓zr_16_0, ↓zr_16_1, ↓zr_19_0, ↓zr_19_1, ↓zr_22_0, ↓zr_22_1, ↓zr_25_0, ↓zr_25_1, ↓zr_28_0, ↓zr_29_0, ↓zr_29_1, ↓zr_32_0, ↓zr_32_1, ↓zr_35_0, ↓zr_35_1, ↓zr_35_4, ↓zr_35_5, ↓zr_38_0, ↓zr_38_1, ↓zr_38_2, ↓zr_38_3, ↓zr_38_4, ↓zr_39_0, ↓zr_39_1, ↓zr_45_0, ↓zr_45_1, ↓zr_46_0, ↓zr_46_1, ↓zr_46_2, ↓zr_50_0, ↓zr_50_1, ↓zr_54_0, ↓zr_54_2, ↓zr_54_3, ↓zr_54_5, ↓zr_54_6, ↓zr_54_11, ↓zr_54_13, ↓zr_54_14, ↓zr_55_0, ↓zr_55_1, ↓zr_64_0, ↓zr_64_1, ↓zr_67_0, ↓zr_67_2, ↓zr_67_3, ↓zr_67_5, ↓zr_67_6, ↓zr_67_11, ↓zr_67_13, ↓zr_67_14, ↓zr_68_0, ↓zr_68_1, ↓zr_77_0, ↓zr_77_1, ↓zr_80_2, ↓zr_80_3, ↓zr_80_4, ↓zr_80_5, ↓zr_80_6, ↓zr_80_7, ↓zr_80_9, ↓zr_80_10, ↓zr_80_12, ↓zr_80_22, ↓zr_80_24, ↓zr_80_25, ↓zr_80_27, ↓zr_80_28, ↓zr_80_31, ↓zr_80_32, ↓zr_80_33, ↓zr_80_35, ↓zr_80_36, ↓zr_80_37, ↓zr_80_41, ↓zr_80_42, ↓zr_80_43, ↓zr_80_44, ↓zr_80_46, ↓zr_80_47, ↓zr_80_48, ↓zr_80_49, ↓zr_80_55, ↓za_1, ↓zs_1, ↓zl_1, ↓za_4, ↓zs_4, ↓zl_4, ↓za_5, ↓zs_5, ↓zl_5, ↓za_6, ↓zs_6, ↓zl_6, ↓za_7, ↓zs_7, ↓zl_7, ↓za_8, ↓zs_8, ↓zl_8, ↓za_9, ↓zs_9, ↓zl_9, ↓za_10, ↓zs_10, ↓zl_10, ↓za_17, ↓zs_17, ↓zl_17, ↓za_18, ↓zs_18, ↓zl_18, ↓za_20, ↓zs_20, ↓zl_20, ↓za_21, ↓zs_21, ↓zl_21, ↓za_23, ↓zs_23, ↓zl_23, ↓za_24, ↓zs_24, ↓zl_24, ↓za_26, ↓zs_26, ↓zl_26, ↓za_27, ↓zs_27, ↓zl_27, ↓za_30, ↓zs_30, ↓zl_30, ↓za_31, ↓zs_31, ↓zl_31, ↓za_33, ↓zs_33, ↓zl_33, ↓za_34, ↓zs_34, ↓zl_34, ↓za_36, ↓zs_36, ↓zl_36, ↓za_37, ↓zs_37, ↓zl_37, ↓za_40, ↓zs_40, ↓zl_40, ↓za_41, ↓zs_41, ↓zl_41, ↓za_42, ↓zs_42, ↓zl_42, ↓za_43, ↓zs_43, ↓zl_43, ↓za_44, ↓zs_44, ↓zl_44, ↓za_47, ↓zs_47, ↓zl_47, ↓za_48, ↓zs_48, ↓zl_48, ↓za_49, ↓zs_49, ↓zl_49, ↓za_51, ↓zs_51, ↓zl_51, ↓za_52, ↓zs_52, ↓zl_52, ↓za_53, ↓zs_53, ↓zl_53, ↓za_56, ↓zs_56, ↓zl_56, ↓za_57, ↓zs_57, ↓zl_57, ↓za_58, ↓zs_58, ↓zl_58, ↓za_59, ↓zs_59, ↓zl_59, ↓za_60, ↓zs_60, ↓zl_60, ↓za_61, ↓zs_61, ↓zl_61, ↓za_62, ↓zs_62, ↓zl_62, ↓za_69, ↓zs_69, ↓zl_69, ↓za_70, ↓zs_70, ↓zl_70, ↓za_71, ↓zs_71, ↓zl_71, ↓za_72, ↓zs_72, ↓zl_72, ↓za_73, ↓zs_73, ↓zl_73, ↓za_74, ↓zs_74, ↓zl_74, ↓za_75, ↓zs_75, ↓zl_75, ↓za_81, ↓zs_81, ↓zl_81, ↓za_82, ↓zs_82, ↓zl_82, ↓za_83, ↓zs_83, ↓zl_83, ↓za_84, ↓zs_84, ↓zl_84, ↓za_85, ↓zs_85, ↓zl_85, ↓za_86, ↓zs_86, ↓zl_86, ↓za_87, ↓zs_87, ↓zl_87, ↓za_88, ↓zs_88, ↓zl_88, ↓za_89, ↓zs_89, ↓zl_89, ↓za_90, ↓zs_90, ↓zl_90, ↓za_91, ↓zs_91, ↓zl_91, ↓za_92, ↓zs_92, ↓zl_92, ↓za_93, ↓zs_93, ↓zl_93, ↓za_94, ↓zs_94, ↓zl_94, ↓za_95, ↓zs_95, ↓zl_95, ↓za_96, ↓zs_96, ↓zl_96, ↓za_97, ↓zs_97, ↓zl_97, ↓za_98, ↓zs_98, ↓zl_98, ↓za_99, ↓zs_99, ↓zl_99, ↓za_100, ↓zs_100, ↓zl_100, ↓za_101, ↓zs_101, ↓zl_101, ↓za_102, ↓zs_102, ↓zl_102, ↓za_103, ↓zs_103, ↓zl_103, ↓za_104, ↓zs_104, ↓zl_104, ↓za_105, ↓zs_105, ↓zl_105, ↓za_106, ↓zs_106, ↓zl_106, ↓za_107, ↓zs_107, ↓zl_107, ↓za_108, ↓zs_108, ↓zl_108, ↓za_109, ↓zs_109, ↓zl_109, hand_id, n01, n05, ob, Nat.zero_le, Nat.not_lt_zero, i10, i01, i12, i21, i20, i02, nl_le1, nl_le2, nl_lt1, nl_lt2, nl_eq1, nl_eq2, nn_le, nn_lt, nn_eq, nl_m1, m1_nl, z_lt, z_le, z_le2, z_lt2, z_eq, nI_l1, nI_l2, nI_l3, nI_l4, nI_add, nI_mul_, tn_n, tn_l, bI_0, bI_1, bI_z, bI_t, bI_f, Bool.false_eq_true, Bool.true_eq_false, eq_self, if_true, if_false, ↓reduceIte, reduceCtorEq, not_true_eq_false, not_false_eq_true, stI_s, stJ_s, ri_p, ri_k, ri_j, ri_1, ri_2, rj_i, rj_1, rj_2, rj_p, rj_k]
  · funext j
    by_cases ej : 5 ≤ j ∧ j < 23
    · have := c7.i (j := j - 5) (by omega)
      rw [show 5 + (j - 5) = j by omega] at this
      rw [this, o6 _ _ (by decide), c5.n (by decide), e3.i 85 _ rfl]
      have k1 := c1.i (j := j - 5) (by omega)
      rw [show 5 + (j - 5) = j by omega] at k1
      exact k1.trans (ri_p (by decide))
    · rw [c7.o (by omega), o6 _ _ (by decide), a5]
      exact ag3 j (by omega) (by omega)
  · rw [c7.n (by decide), hw6, ri_k (by decide), stI_s]
  · rw [c7.n (by decide), hw6, stI_s]
  · rw [c7.n (by decide), o6 _ _ (by decide)]
    have := c5.i hj
    rw [Nat.zero_add, r3, hRd] at this
    exact this
