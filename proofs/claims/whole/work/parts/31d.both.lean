/-! the call row -/
theorem PBd_F {p j : Nat} (h1 : 80 ≤ p) (_ : p < 110) : PBd p j = false := decide_eq_false (by omega)
theorem PGT_of {p j : Nat} (h : PZ p j = true ∨ (2 ≤ p ∧ p ≤ 10 ∨ p = 16 ∨ p = 17 ∨ p = 18 ∨ p = 82 ∧ j < 90 ∨ p = 85 ∨ p = 86 ∨ p = 80 ∧ j = 8) ∨ (p = 0 ∧ (j = 1 ∨ 15 ≤ j ∧ j ≤ 17) ∨ p = 1 ∨ p = 80 ∧ (j = 11 ∨ j = 13 ∨ j = 18 ∨ j = 52) ∨ p = 89)) : PGT p j = true := by
  unfold PGT PG
  rw [Bool.or_eq_true, Bool.or_eq_true]
  rcases h with h | h | h
  · exact Or.inl (Or.inl h)
  · exact Or.inl (Or.inr (decide_eq_true h))
  · exact Or.inr (decide_eq_true h)
theorem nI_sub' (a b : Nat) : nI (a + b) - nI b = nI a := by
  rw [← nI_add, Int32.add_sub_cancel]
theorem nI_sub2 (a b : Nat) : nI (a + b) - nI a = nI b := by
  rw [Nat.add_comm, nI_sub']
theorem rw_bd {T : Nat → Int32} {t nb nm nh nl : Nat} {r : Nat → Int32} (ht : t ≤ 400) (hT0 : ∀ j, j < 400 → 0 ≤ T j) (b : Bd r nb nm nh nl) (bt : BdT r) (k i : Nat) : (nb ≤ (rwF T t k i (r, nb, 0)).2.1 ∧ (rwF T t k i (r, nb, 0)).2.1 ≤ 7) ∧ Bd (rwF T t k i (r, nb, 0)).1 (rwF T t k i (r, nb, 0)).2.1 nm nh nl ∧ BdT (rwF T t k i (r, nb, 0)).1 := by
  refine rw_ind (P := fun s => (nb ≤ s.2.1 ∧ s.2.1 ≤ 7) ∧ Bd s.1 s.2.1 nm nh nl ∧ BdT s.1) (fun i s p => ?_) k i (r, nb, 0) ⟨⟨Nat.le_refl _, b.1.2⟩, b, bt⟩
  by_cases c : okR T t i = true ∧ s.2.1 < 7
  · obtain ⟨o1, o2, o3⟩ := okR_of c.1
    have es : rwS T t i s = (abR s.1 s.2.1 (T i) (T (i + 1)) (fun m => T (i + 2 + m)), s.2.1 + 1, s.2.2) := if_pos c
    rw [es]
    refine ⟨⟨by show nb ≤ s.2.1 + 1; omega, by show s.2.1 + 1 ≤ 7; omega⟩, p.2.1.ab c.2 ⟨hT0 _ (by omega), o3 _ (by omega) (by omega)⟩ (fun m hm => ⟨hT0 _ (by omega), o3 _ (by omega) (by omega)⟩), p.2.2.ab c.2 ⟨Int32.le_trans (by decide) (hT0 i (by omega)), lt20_19 o2⟩⟩
  · have es : rwS T t i s = (s.1, s.2.1, s.2.2 + 1) := if_neg c
    rw [es]
    exact p
theorem bo_row {h : AH} (k : Rel h) : Bo h (f_X10_row S_1 0) (f_X11_row S_1 80) := by
  obtain ⟨st, nb, nm, nh, nl, k0⟩ := id k
  obtain ⟨t, ht, t1, t2, t3⟩ := k0.2.2.2.2.2.2.2.1
  by_cases z : t = 0
  · refine bo_stay (v := -6) k (Or.inr (Or.inr (Or.inr (Or.inr (Or.inr rfl))))) (by decide) ?_ fun h1 e1 => ⟨stI h1 80 0 0, (Eqv.refl h1).si rfl, rfl, ?_⟩
    · unfold f_X10_row
      simp (disch := first | rfl | decide | omega | (simp (disch := first | omega | decide) only [nI_l1, nI_l2, nI_l3, nI_l4, nI_add, nI_mul_]; exact ix_n (by omega) (by omega)) | (exact ix_n (by omega) (by omega)) | (exact ix_l (by decide) (by decide)) | assumption) only [t1, z, show (nI 0 = (0 : Int32)) = True from eq_true rfl, ↓zI, ↓zP, ↓zZ, ↓zC, ↓zJ, ↓zQ, ↓zE, ↓zK, ↓zF, ↓zD, ↓zr_0_0, ↓zr_0_2, ↓zr_0_3, ↓zr_0_4, ↓zr_0_5, ↓zr_0_6, ↓zr_0_7, ↓zr_0_8, ↓zr_0_9, ↓zr_0_10, ↓zr_0_11, ↓zr_0_12, ↓zr_0_13, ↓zr_2_0, ↓zr_2_2, ↓zr_2_3, ↓zr_2_5, ↓zr_2_6, ↓zr_2_11, ↓zr_2_13, ↓zr_2_14, ↓zr_3_0, ↓zr_3_1, ↓zr_12_0, ↓zr_12_1, ↓zr_16_0, ↓zr_16_1, ↓zr_19_0, ↓zr_19_1, ↓zr_22_0, ↓zr_22_1, ↓zr_25_0, ↓zr_25_1, ↓zr_28_0, ↓zr_29_0, ↓zr_29_1, ↓zr_32_0, ↓zr_32_1, ↓zr_35_0, ↓zr_35_1, ↓zr_35_4, ↓zr_35_5, ↓zr_38_0, ↓zr_38_1, ↓zr_38_2, ↓zr_38_3, ↓zr_38_4, ↓zr_39_0, ↓zr_39_1, ↓zr_45_0, ↓zr_45_1, ↓zr_46_0, ↓zr_46_1, ↓zr_46_2, ↓zr_50_0, ↓zr_50_1, ↓zr_54_0, ↓zr_54_2, ↓zr_54_3, ↓zr_54_5, ↓zr_54_6, ↓zr_54_11, ↓zr_54_13, ↓zr_54_14, ↓zr_55_0, ↓zr_55_1, ↓zr_64_0, ↓zr_64_1, ↓zr_67_0, ↓zr_67_2, ↓zr_67_3, ↓zr_67_5, ↓zr_67_6, ↓zr_67_11, ↓zr_67_13, ↓zr_67_14, ↓zr_68_0, ↓zr_68_1, ↓zr_77_0, ↓zr_77_1, ↓zr_80_2, ↓zr_80_3, ↓zr_80_4, ↓zr_80_5, ↓zr_80_6, ↓zr_80_7, ↓zr_80_9, ↓zr_80_10, ↓zr_80_12, ↓zr_80_22, ↓zr_80_24, ↓zr_80_25, ↓zr_80_27, ↓zr_80_28, ↓zr_80_31, ↓zr_80_32, ↓zr_80_33, ↓zr_80_35, ↓zr_80_36, ↓zr_80_37, ↓zr_80_41, ↓zr_80_42, ↓zr_80_43, ↓zr_80_44, ↓zr_80_46, ↓zr_80_47, ↓zr_80_48, ↓zr_80_49, ↓zr_80_55, ↓za_1, ↓zs_1, ↓zl_1, ↓za_4, ↓zs_4, ↓zl_4, ↓za_5, ↓zs_5, ↓zl_5, ↓za_6, ↓zs_6, ↓zl_6, ↓za_7, ↓zs_7, ↓zl_7, ↓za_8, ↓zs_8, ↓zl_8, ↓za_9, ↓zs_9, ↓zl_9, ↓za_10, ↓zs_10, ↓zl_10, ↓za_17, ↓zs_17, ↓zl_17, ↓za_18, ↓zs_18, ↓zl_18, ↓za_20, ↓zs_20, ↓zl_20, ↓za_21, ↓zs_21, ↓zl_21, ↓za_23, ↓zs_23, ↓zl_23, ↓za_24, ↓zs_24, ↓zl_24, ↓za_26, ↓zs_26, ↓zl_26, ↓za_27, ↓zs_27, ↓zl_27, ↓za_30, ↓zs_30, ↓zl_30, ↓za_31, ↓zs_31, ↓zl_31, ↓za_33, ↓zs_33, ↓zl_33, ↓za_34, ↓zs_34, ↓zl_34, ↓za_36, ↓zs_36, ↓zl_36, ↓za_37, ↓zs_37, ↓zl_37, ↓za_40, ↓zs_40, ↓zl_40, ↓za_41, ↓zs_41, ↓zl_41, ↓za_42, ↓zs_42, ↓zl_42, ↓za_43, ↓zs_43, ↓zl_43, ↓za_44, ↓zs_44, ↓zl_44, ↓za_47, ↓zs_47, ↓zl_47, ↓za_48, ↓zs_48, ↓zl_48, ↓za_49, ↓zs_49, ↓zl_49, ↓za_51, ↓zs_51, ↓zl_51, ↓za_52, ↓zs_52, ↓zl_52, ↓za_53, ↓zs_53, ↓zl_53, ↓za_56, ↓zs_56, ↓zl_56, ↓za_57, ↓zs_57, ↓zl_57, ↓za_58, ↓zs_58, ↓zl_58, ↓za_59, ↓zs_59, ↓zl_59, ↓za_60, ↓zs_60, ↓zl_60, ↓za_61, ↓zs_61, ↓zl_61, ↓za_62, ↓zs_62, ↓zl_62, ↓za_69, ↓zs_69, ↓zl_69, ↓za_70, ↓zs_70, ↓zl_70, ↓za_71, ↓zs_71, ↓zl_71, ↓za_72, ↓zs_72, ↓zl_72, ↓za_73, ↓zs_73, ↓zl_73, ↓za_74, ↓zs_74, ↓zl_74, ↓za_75, ↓zs_75, ↓zl_75, ↓za_81, ↓zs_81, ↓zl_81, ↓za_82, ↓zs_82, ↓zl_82, ↓za_83, ↓zs_83, ↓zl_83, ↓za_84, ↓zs_84, ↓zl_84, ↓za_85, ↓zs_85, ↓zl_85, ↓za_86, ↓zs_86, ↓zl_86, ↓za_87, ↓zs_87, ↓zl_87, ↓za_88, ↓zs_88, ↓zl_88, ↓za_89, ↓zs_89, ↓zl_89, ↓za_90, ↓zs_90, ↓zl_90, ↓za_91, ↓zs_91, ↓zl_91, ↓za_92, ↓zs_92, ↓zl_92, ↓za_93, ↓zs_93, ↓zl_93, ↓za_94, ↓zs_94, ↓zl_94, ↓za_95, ↓zs_95, ↓zl_95, ↓za_96, ↓zs_96, ↓zl_96, ↓za_97, ↓zs_97, ↓zl_97, ↓za_98, ↓zs_98, ↓zl_98, ↓za_99, ↓zs_99, ↓zl_99, ↓za_100, ↓zs_100, ↓zl_100, ↓za_101, ↓zs_101, ↓zl_101, ↓za_102, ↓zs_102, ↓zl_102, ↓za_103, ↓zs_103, ↓zl_103, ↓za_104, ↓zs_104, ↓zl_104, ↓za_105, ↓zs_105, ↓zl_105, ↓za_106, ↓zs_106, ↓zl_106, ↓za_107, ↓zs_107, ↓zl_107, ↓za_108, ↓zs_108, ↓zl_108, ↓za_109, ↓zs_109, ↓zl_109, hand_id, n01, n05, ob, Nat.zero_le, Nat.not_lt_zero, i10, i01, i12, i21, i20, i02, nl_le1, nl_le2, nl_lt1, nl_lt2, nl_eq1, nl_eq2, nn_le, nn_lt, nn_eq, nl_m1, m1_nl, z_lt, z_le, z_le2, z_lt2, z_eq, nI_l1, nI_l2, nI_l3, nI_l4, nI_add, nI_mul_, tn_n, tn_l, bI_0, bI_1, bI_z, bI_t, bI_f, Bool.false_eq_true, Bool.true_eq_false, eq_self, if_true, if_false, ↓reduceIte, reduceCtorEq, not_true_eq_false, not_false_eq_true, stI_s, stJ_s, ri_p, ri_k, ri_j, ri_1, ri_2, rj_i, rj_1, rj_2, rj_p, rj_k]
    · have e13 : (stI h1 80 0 0).2.1 80 13 = nI 0 := (ri_k (by decide)).trans ((e1.i 80 13 rfl).trans (t2.trans (by rw [z])))
      have e : stI (stI h1 80 0 0) 80 13 0 = stI h1 80 0 0 := by
        have := stI_id (stI h1 80 0 0) 80 13
        rw [e13] at this
        exact this
      unfold f_X11_row
      rw [bs_ (show pI S_1 h1 80 11 0 (0 : Int32) = some (stI h1 80 0 0) from rfl), bs_ (yi_80 _ 13), e13, bs_ (show pI S_1 (stI h1 80 0 0) 80 11 13 (0 : Int32) = some (stI (stI h1 80 0 0) 80 13 0) from rfl), e, if_pos (show nI 0 = 0 from rfl), bs_ (ck_80 _)]
  · obtain ⟨T, hTd⟩ : ∃ T, T = h.2.1 89 := ⟨_, rfl⟩
    have hT : ∀ j, j < 400 → h.2.1 1 j = T j := fun j hj => by rw [hTd]; exact (t3 j hj).1
    have hT0 : ∀ j, j < 400 → 0 ≤ T j := fun j hj => by rw [hTd]; exact (t3 j hj).2.1
    have b0 : h.2.1 82 0 = nI nb := k0.1.1.1
    have h7 : nb ≤ 7 := k0.1.1.2
    obtain ⟨g1, q1, e1, i1, i2, i3, i4, i5⟩ := q_rowL (T := T) (n0 := nb) ht 50 0 FU h (h.2.1 82, nb, 0) (by omega) (by unfold FU; omega) (by omega) hT t1 ⟨k0.2.2.1.1, k0.2.2.1.2, b0, h7, Nat.le_refl _⟩
    obtain ⟨-, bb, bbt⟩ := rw_bd ht hT0 k0.1 k0.2.1 50 0
    have mm := fun (g : AH) a b c => m_rowL (T := T) (n0 := nb) ht hT0 50 0 FU g (h.2.1 82, nb, 0) (by omega) (by unfold FU; omega) (by omega) a b c b0 h7 (Nat.le_refl _)
    generalize rwF T t 50 0 (h.2.1 82, nb, 0) = s at *
    obtain ⟨r', nb', cats⟩ := s
    obtain ⟨d, rfl⟩ : ∃ d, nb' = d + nb := ⟨nb' - nb, by have : nb ≤ nb' := i5; omega⟩
    replace q1 : f_X10_row_l26 S_1 FU 0 (nI nb) (0 : Int32) (0 : Int32) h = some ((0, nI nb, nI (d + cats)), g1) := by
      have e : f_X10_row_l26 S_1 FU 0 (nI nb) (nI (nb - nb + 0)) (nI 0) h = some ((0, nI nb, nI (d + nb - nb + cats)), g1) := q1
      rw [Nat.sub_self, Nat.add_sub_cancel] at e
      exact e
    have n1 : g1.2.1 2 1 = nI (d + nb) := i2.1.1.trans i3
    obtain ⟨g2, hg2⟩ : ∃ g2, g2 = stI (stI (stI g1 0 16 (nI cats)) 0 1 0) 16 3 0 := ⟨_, rfl⟩
    obtain ⟨h4, q4, e4, s4⟩ := q_accept g2 (nI d)
    have V0 : 0 ≤ nI d := nI_pos' (by have : d + nb ≤ 7 := i4; omega)
    have F : ClF h h4 := by
      refine ClF.trans ?_ (ClF.of e4 fun p j => PA0_F)
      rw [hg2]
      exact ((((ClF.of e1 fun p j => PBd_F).si (by decide)).si (by decide)).si (by decide))
    have E4 : Eqv PGT h h4 := by
      refine Eqv.trans ?_ (e4.mono fun p j h => PGT_of (Or.inl (PZc_Z p j (PA0_Zc p j h))))
      rw [hg2]
      refine ((Eqv.si (Eqv.si (e1.mono fun p j h => PGT_of (Or.inr (Or.inl (by have := of_decide_eq_true h; omega)))) ?_) ?_).si ?_) <;> rfl
    obtain ⟨w2, q5, e5, r5, c5⟩ := mm (stI (stI (stI h4 80 0 0) 80 13 0) 80 11 0) ((funext fun j => by rw [ri_p (by decide), ri_p (by decide), ri_p (by decide), (F 89 j (by omega) (by omega)).1]).trans hTd.symm) ((funext fun j => by rw [ri_p (by decide), ri_p (by decide), ri_p (by decide)]).trans F.r82) (stI_s _ _ _ _)
    replace q5 : f_X11_row_l35 S_1 FU 80 (nI t) (0 : Int32) (0 : Int32) (stI (stI (stI h4 80 0 0) 80 13 0) 80 11 0) = some ((80, nI d), w2) := by
      have e : f_X11_row_l35 S_1 FU 80 (nI t) (nI (nb - nb)) (nI 0) (stI (stI (stI h4 80 0 0) 80 13 0) 80 11 0) = some ((80, nI (d + nb - nb)), w2) := q5
      rw [Nat.sub_self, Nat.add_sub_cancel] at e
      exact e
    obtain ⟨w4, q6, e6, s6⟩ := m_tell (stI w2 80 8 0) (nI d) (Or.inl V0)
    have E5 : Eqv PGT h4 w2 := by
      refine Eqv.trans ?_ (e5.mono fun p j h => PGT_of (by have := of_decide_eq_true h; omega))
      refine ((Eqv.si (Eqv.si (Eqv.refl h4) ?_) ?_).si ?_) <;> rfl
    have E6 : Eqv PGT h4 w4 := (E5.si (p := 80) (j := 8) rfl).trans (e6.mono fun p j h => PGT_of (Or.inl (PZm_Z p j (PB0_Zm p j h))))
    have P5 : ∀ p j, p < 80 ∨ 110 ≤ p → PRw p j = false := fun p j hp => decide_eq_false (by omega)
    have M2 : MoF h4 w2 := (((((MoF.refl h4).si (by decide)).si (by decide)).si (by decide)).trans (MoF.of e5 P5))
    have M : MoF h4 w4 := (M2.si (by decide)).trans (MoF.of e6 fun p j => PB0_F)
    have u : ∀ p j, ¬ (p = 80 ∧ j = 1) → p ≠ 81 → w4.2.1 p j = (stI w2 80 8 0).2.1 p j := fun p j h1 h2 => e6.i p j (decide_eq_false (by omega))
    have v0 : ∀ p j, p < 80 → ¬ (p = 0 ∧ j = 14) → p ≠ 53 → w4.2.1 p j = g2.2.1 p j := fun p j h1 h2 h3 => (M.1 p j (by omega)).1.trans (e4.i p j (decide_eq_false (by omega)))
    have v1 : ∀ p, p < 80 → p ≠ 0 → p ≠ 53 → p ≠ 16 → w4.2.1 p = g1.2.1 p := fun p h1 h2 h3 h4 => funext fun j => (v0 p j h1 (by omega) h3).trans (by rw [hg2, ri_p h4, ri_p h2, ri_p h2])
    have w80 : ∀ j, j ≠ 0 → j ≠ 1 → j ≠ 8 → j ≠ 11 → j ≠ 13 → w4.2.1 80 j = h.2.1 80 j := fun j j0 j1 j2 j3 j4 => by
      rw [u 80 j (by omega) (by decide), ri_k j2, e5.i 80 j (decide_eq_false (by omega)), ri_k j3, ri_k j4, ri_k j0, (F 80 j (by omega) (by omega)).1]
    have g0 : ∀ j, j ≠ 1 → j ≠ 16 → j ≠ 14 → w4.2.1 0 j = h.2.1 0 j := fun j j1 j2 j3 => by
      rw [v0 0 j (by decide) (by omega) (by decide), hg2, ri_p (by decide), ri_k j1, ri_k j2, e1.i 0 j rfl]
    have r82 : w4.2.1 82 = r' := (funext fun j => (u 82 j (by omega) (by decide)).trans (ri_p (by decide))).trans r5
    refine ⟨nI d, h4, w4, ?_, ?_, st.both (ha := g2) (hb := stI w2 80 8 0) ?_ F s4 ?_ M (s6.pos V0), d + nb, nm, nh, nl, k0.gt (E4.trans E6) ?_ ?_ ?_ ?_ ?_ ?_ ?_⟩
    · unfold f_X10_row f_X5_clear
      have b1 : h.2.1 2 1 = nI nb := k0.2.2.1.2.1.1.trans b0
      simp (disch := first | rfl | decide | omega | (simp (disch := first | omega | decide) only [nI_l1, nI_l2, nI_l3, nI_l4, nI_add, nI_mul_]; exact ix_n (by omega) (by omega)) | (exact ix_n (by omega) (by omega)) | (exact ix_l (by decide) (by decide)) | assumption) only [t1, show (nI t = (0 : Int32)) = False from eq_false (by rw [show (0 : Int32) = nI 0 from rfl, nn_eq (by omega) (by decide)]; exact z), b1, bs_ q1, n1, nI_sub', nI_sub2, ← hg2, bs_ q4, q4, ↓zI, ↓zP, ↓zZ, ↓zC, ↓zJ, ↓zQ, ↓zE, ↓zK, ↓zF, ↓zD, ↓zr_0_0, ↓zr_0_2, ↓zr_0_3, ↓zr_0_4, ↓zr_0_5, ↓zr_0_6, ↓zr_0_7, ↓zr_0_8, ↓zr_0_9, ↓zr_0_10, ↓zr_0_11, ↓zr_0_12, ↓zr_0_13, ↓zr_2_0, ↓zr_2_2, ↓zr_2_3, ↓zr_2_5, ↓zr_2_6, ↓zr_2_11, ↓zr_2_13, ↓zr_2_14, ↓zr_3_0, ↓zr_3_1, ↓zr_12_0, ↓zr_12_1, ↓zr_16_0, ↓zr_16_1, ↓zr_19_0, ↓zr_19_1, ↓zr_22_0, ↓zr_22_1, ↓zr_25_0, ↓zr_25_1, ↓zr_28_0, ↓zr_29_0, ↓zr_29_1, ↓zr_32_0, ↓zr_32_1, ↓zr_35_0, ↓zr_35_1, ↓zr_35_4, ↓zr_35_5, ↓zr_38_0, ↓zr_38_1, ↓zr_38_2, ↓zr_38_3, ↓zr_38_4, ↓zr_39_0, ↓zr_39_1, ↓zr_45_0, ↓zr_45_1, ↓zr_46_0, ↓zr_46_1, ↓zr_46_2, ↓zr_50_0, ↓zr_50_1, ↓zr_54_0, ↓zr_54_2, ↓zr_54_3, ↓zr_54_5, ↓zr_54_6, ↓zr_54_11, ↓zr_54_13, ↓zr_54_14, ↓zr_55_0, ↓zr_55_1, ↓zr_64_0, ↓zr_64_1, ↓zr_67_0, ↓zr_67_2, ↓zr_67_3, ↓zr_67_5, ↓zr_67_6, ↓zr_67_11, ↓zr_67_13, ↓zr_67_14, ↓zr_68_0, ↓zr_68_1, ↓zr_77_0, ↓zr_77_1, ↓zr_80_2, ↓zr_80_3, ↓zr_80_4, ↓zr_80_5, ↓zr_80_6, ↓zr_80_7, ↓zr_80_9, ↓zr_80_10, ↓zr_80_12, ↓zr_80_22, ↓zr_80_24, ↓zr_80_25, ↓zr_80_27, ↓zr_80_28, ↓zr_80_31, ↓zr_80_32, ↓zr_80_33, ↓zr_80_35, ↓zr_80_36, ↓zr_80_37, ↓zr_80_41, ↓zr_80_42, ↓zr_80_43, ↓zr_80_44, ↓zr_80_46, ↓zr_80_47, ↓zr_80_48, ↓zr_80_49, ↓zr_80_55, ↓za_1, ↓zs_1, ↓zl_1, ↓za_4, ↓zs_4, ↓zl_4, ↓za_5, ↓zs_5, ↓zl_5, ↓za_6, ↓zs_6, ↓zl_6, ↓za_7, ↓zs_7, ↓zl_7, ↓za_8, ↓zs_8, ↓zl_8, ↓za_9, ↓zs_9, ↓zl_9, ↓za_10, ↓zs_10, ↓zl_10, ↓za_17, ↓zs_17, ↓zl_17, ↓za_18, ↓zs_18, ↓zl_18, ↓za_20, ↓zs_20, ↓zl_20, ↓za_21, ↓zs_21, ↓zl_21, ↓za_23, ↓zs_23, ↓zl_23, ↓za_24, ↓zs_24, ↓zl_24, ↓za_26, ↓zs_26, ↓zl_26, ↓za_27, ↓zs_27, ↓zl_27, ↓za_30, ↓zs_30, ↓zl_30, ↓za_31, ↓zs_31, ↓zl_31, ↓za_33, ↓zs_33, ↓zl_33, ↓za_34, ↓zs_34, ↓zl_34, ↓za_36, ↓zs_36, ↓zl_36, ↓za_37, ↓zs_37, ↓zl_37, ↓za_40, ↓zs_40, ↓zl_40, ↓za_41, ↓zs_41, ↓zl_41, ↓za_42, ↓zs_42, ↓zl_42, ↓za_43, ↓zs_43, ↓zl_43, ↓za_44, ↓zs_44, ↓zl_44, ↓za_47, ↓zs_47, ↓zl_47, ↓za_48, ↓zs_48, ↓zl_48, ↓za_49, ↓zs_49, ↓zl_49, ↓za_51, ↓zs_51, ↓zl_51, ↓za_52, ↓zs_52, ↓zl_52, ↓za_53, ↓zs_53, ↓zl_53, ↓za_56, ↓zs_56, ↓zl_56, ↓za_57, ↓zs_57, ↓zl_57, ↓za_58, ↓zs_58, ↓zl_58, ↓za_59, ↓zs_59, ↓zl_59, ↓za_60, ↓zs_60, ↓zl_60, ↓za_61, ↓zs_61, ↓zl_61, ↓za_62, ↓zs_62, ↓zl_62, ↓za_69, ↓zs_69, ↓zl_69, ↓za_70, ↓zs_70, ↓zl_70, ↓za_71, ↓zs_71, ↓zl_71, ↓za_72, ↓zs_72, ↓zl_72, ↓za_73, ↓zs_73, ↓zl_73, ↓za_74, ↓zs_74, ↓zl_74, ↓za_75, ↓zs_75, ↓zl_75, ↓za_81, ↓zs_81, ↓zl_81, ↓za_82, ↓zs_82, ↓zl_82, ↓za_83, ↓zs_83, ↓zl_83, ↓za_84, ↓zs_84, ↓zl_84, ↓za_85, ↓zs_85, ↓zl_85, ↓za_86, ↓zs_86, ↓zl_86, ↓za_87, ↓zs_87, ↓zl_87, ↓za_88, ↓zs_88, ↓zl_88, ↓za_89, ↓zs_89, ↓zl_89, ↓za_90, ↓zs_90, ↓zl_90, ↓za_91, ↓zs_91, ↓zl_91, ↓za_92, ↓zs_92, ↓zl_92, ↓za_93, ↓zs_93, ↓zl_93, ↓za_94, ↓zs_94, ↓zl_94, ↓za_95, ↓zs_95, ↓zl_95, ↓za_96, ↓zs_96, ↓zl_96, ↓za_97, ↓zs_97, ↓zl_97, ↓za_98, ↓zs_98, ↓zl_98, ↓za_99, ↓zs_99, ↓zl_99, ↓za_100, ↓zs_100, ↓zl_100, ↓za_101, ↓zs_101, ↓zl_101, ↓za_102, ↓zs_102, ↓zl_102, ↓za_103, ↓zs_103, ↓zl_103, ↓za_104, ↓zs_104, ↓zl_104, ↓za_105, ↓zs_105, ↓zl_105, ↓za_106, ↓zs_106, ↓zl_106, ↓za_107, ↓zs_107, ↓zl_107, ↓za_108, ↓zs_108, ↓zl_108, ↓za_109, ↓zs_109, ↓zl_109, hand_id, n01, n05, ob, Nat.zero_le, Nat.not_lt_zero, i10, i01, i12, i21, i20, i02, nl_le1, nl_le2, nl_lt1, nl_lt2, nl_eq1, nl_eq2, nn_le, nn_lt, nn_eq, nl_m1, m1_nl, z_lt, z_le, z_le2, z_lt2, z_eq, nI_l1, nI_l2, nI_l3, nI_l4, nI_add, nI_mul_, tn_n, tn_l, bI_0, bI_1, bI_z, bI_t, bI_f, Bool.false_eq_true, Bool.true_eq_false, eq_self, if_true, if_false, ↓reduceIte, reduceCtorEq, not_true_eq_false, not_false_eq_true, stI_s, stJ_s, ri_p, ri_k, ri_j, ri_1, ri_2, rj_i, rj_1, rj_2, rj_p, rj_k]
    · unfold f_X11_row
      simp (disch := first | rfl | decide | omega | (simp (disch := first | omega | decide) only [nI_l1, nI_l2, nI_l3, nI_l4, nI_add, nI_mul_]; exact ix_n (by omega) (by omega)) | (exact ix_n (by omega) (by omega)) | (exact ix_l (by decide) (by decide)) | assumption) only [(F 80 13 (by omega) (by omega)).1.trans t2, show (nI t = (0 : Int32)) = False from eq_false (by rw [show (0 : Int32) = nI 0 from rfl, nn_eq (by omega) (by decide)]; exact z), bs_ q5, m_lastP w2 V0, bs_ q6, q6, ↓zI, ↓zP, ↓zZ, ↓zC, ↓zJ, ↓zQ, ↓zE, ↓zK, ↓zF, ↓zD, ↓zr_0_0, ↓zr_0_2, ↓zr_0_3, ↓zr_0_4, ↓zr_0_5, ↓zr_0_6, ↓zr_0_7, ↓zr_0_8, ↓zr_0_9, ↓zr_0_10, ↓zr_0_11, ↓zr_0_12, ↓zr_0_13, ↓zr_2_0, ↓zr_2_2, ↓zr_2_3, ↓zr_2_5, ↓zr_2_6, ↓zr_2_11, ↓zr_2_13, ↓zr_2_14, ↓zr_3_0, ↓zr_3_1, ↓zr_12_0, ↓zr_12_1, ↓zr_16_0, ↓zr_16_1, ↓zr_19_0, ↓zr_19_1, ↓zr_22_0, ↓zr_22_1, ↓zr_25_0, ↓zr_25_1, ↓zr_28_0, ↓zr_29_0, ↓zr_29_1, ↓zr_32_0, ↓zr_32_1, ↓zr_35_0, ↓zr_35_1, ↓zr_35_4, ↓zr_35_5, ↓zr_38_0, ↓zr_38_1, ↓zr_38_2, ↓zr_38_3, ↓zr_38_4, ↓zr_39_0, ↓zr_39_1, ↓zr_45_0, ↓zr_45_1, ↓zr_46_0, ↓zr_46_1, ↓zr_46_2, ↓zr_50_0, ↓zr_50_1, ↓zr_54_0, ↓zr_54_2, ↓zr_54_3, ↓zr_54_5, ↓zr_54_6, ↓zr_54_11, ↓zr_54_13, ↓zr_54_14, ↓zr_55_0, ↓zr_55_1, ↓zr_64_0, ↓zr_64_1, ↓zr_67_0, ↓zr_67_2, ↓zr_67_3, ↓zr_67_5, ↓zr_67_6, ↓zr_67_11, ↓zr_67_13, ↓zr_67_14, ↓zr_68_0, ↓zr_68_1, ↓zr_77_0, ↓zr_77_1, ↓zr_80_2, ↓zr_80_3, ↓zr_80_4, ↓zr_80_5, ↓zr_80_6, ↓zr_80_7, ↓zr_80_9, ↓zr_80_10, ↓zr_80_12, ↓zr_80_22, ↓zr_80_24, ↓zr_80_25, ↓zr_80_27, ↓zr_80_28, ↓zr_80_31, ↓zr_80_32, ↓zr_80_33, ↓zr_80_35, ↓zr_80_36, ↓zr_80_37, ↓zr_80_41, ↓zr_80_42, ↓zr_80_43, ↓zr_80_44, ↓zr_80_46, ↓zr_80_47, ↓zr_80_48, ↓zr_80_49, ↓zr_80_55, ↓za_1, ↓zs_1, ↓zl_1, ↓za_4, ↓zs_4, ↓zl_4, ↓za_5, ↓zs_5, ↓zl_5, ↓za_6, ↓zs_6, ↓zl_6, ↓za_7, ↓zs_7, ↓zl_7, ↓za_8, ↓zs_8, ↓zl_8, ↓za_9, ↓zs_9, ↓zl_9, ↓za_10, ↓zs_10, ↓zl_10, ↓za_17, ↓zs_17, ↓zl_17, ↓za_18, ↓zs_18, ↓zl_18, ↓za_20, ↓zs_20, ↓zl_20, ↓za_21, ↓zs_21, ↓zl_21, ↓za_23, ↓zs_23, ↓zl_23, ↓za_24, ↓zs_24, ↓zl_24, ↓za_26, ↓zs_26, ↓zl_26, ↓za_27, ↓zs_27, ↓zl_27, ↓za_30, ↓zs_30, ↓zl_30, ↓za_31, ↓zs_31, ↓zl_31, ↓za_33, ↓zs_33, ↓zl_33, ↓za_34, ↓zs_34, ↓zl_34, ↓za_36, ↓zs_36, ↓zl_36, ↓za_37, ↓zs_37, ↓zl_37, ↓za_40, ↓zs_40, ↓zl_40, ↓za_41, ↓zs_41, ↓zl_41, ↓za_42, ↓zs_42, ↓zl_42, ↓za_43, ↓zs_43, ↓zl_43, ↓za_44, ↓zs_44, ↓zl_44, ↓za_47, ↓zs_47, ↓zl_47, ↓za_48, ↓zs_48, ↓zl_48, ↓za_49, ↓zs_49, ↓zl_49, ↓za_51, ↓zs_51, ↓zl_51, ↓za_52, ↓zs_52, ↓zl_52, ↓za_53, ↓zs_53, ↓zl_53, ↓za_56, ↓zs_56, ↓zl_56, ↓za_57, ↓zs_57, ↓zl_57, ↓za_58, ↓zs_58, ↓zl_58, ↓za_59, ↓zs_59, ↓zl_59, ↓za_60, ↓zs_60, ↓zl_60, ↓za_61, ↓zs_61, ↓zl_61, ↓za_62, ↓zs_62, ↓zl_62, ↓za_69, ↓zs_69, ↓zl_69, ↓za_70, ↓zs_70, ↓zl_70, ↓za_71, ↓zs_71, ↓zl_71, ↓za_72, ↓zs_72, ↓zl_72, ↓za_73, ↓zs_73, ↓zl_73, ↓za_74, ↓zs_74, ↓zl_74, ↓za_75, ↓zs_75, ↓zl_75, ↓za_81, ↓zs_81, ↓zl_81, ↓za_82, ↓zs_82, ↓zl_82, ↓za_83, ↓zs_83, ↓zl_83, ↓za_84, ↓zs_84, ↓zl_84, ↓za_85, ↓zs_85, ↓zl_85, ↓za_86, ↓zs_86, ↓zl_86, ↓za_87, ↓zs_87, ↓zl_87, ↓za_88, ↓zs_88, ↓zl_88, ↓za_89, ↓zs_89, ↓zl_89, ↓za_90, ↓zs_90, ↓zl_90, ↓za_91, ↓zs_91, ↓zl_91, ↓za_92, ↓zs_92, ↓zl_92, ↓za_93, ↓zs_93, ↓zl_93, ↓za_94, ↓zs_94, ↓zl_94, ↓za_95, ↓zs_95, ↓zl_95, ↓za_96, ↓zs_96, ↓zl_96, ↓za_97, ↓zs_97, ↓zl_97, ↓za_98, ↓zs_98, ↓zl_98, ↓za_99, ↓zs_99, ↓zl_99, ↓za_100, ↓zs_100, ↓zl_100, ↓za_101, ↓zs_101, ↓zl_101, ↓za_102, ↓zs_102, ↓zl_102, ↓za_103, ↓zs_103, ↓zl_103, ↓za_104, ↓zs_104, ↓zl_104, ↓za_105, ↓zs_105, ↓zl_105, ↓za_106, ↓zs_106, ↓zl_106, ↓za_107, ↓zs_107, ↓zl_107, ↓za_108, ↓zs_108, ↓zl_108, ↓za_109, ↓zs_109, ↓zl_109, hand_id, n01, n05, ob, Nat.zero_le, Nat.not_lt_zero, i10, i01, i12, i21, i20, i02, nl_le1, nl_le2, nl_lt1, nl_lt2, nl_eq1, nl_eq2, nn_le, nn_lt, nn_eq, nl_m1, m1_nl, z_lt, z_le, z_le2, z_lt2, z_eq, nI_l1, nI_l2, nI_l3, nI_l4, nI_add, nI_mul_, tn_n, tn_l, bI_0, bI_1, bI_z, bI_t, bI_f, Bool.false_eq_true, Bool.true_eq_false, eq_self, if_true, if_false, ↓reduceIte, reduceCtorEq, not_true_eq_false, not_false_eq_true, stI_s, stJ_s, ri_p, ri_k, ri_j, ri_1, ri_2, rj_i, rj_1, rj_2, rj_p, rj_k]
    · rw [hg2]
      funext j
      rw [ri_p (by decide), ri_p (by decide), ri_p (by decide), e1.i 53 j rfl]
    · funext j
      rw [ri_p (by decide), e5.i 81 j rfl, ri_p (by decide), ri_p (by decide), ri_p (by decide)]
    · rw [r82]; exact bb
    · rw [r82]; exact bbt
    · rw [r82]
      exact i1.rows (v1 3 (by decide) (by decide) (by decide) (by decide)) (v1 4 (by decide) (by decide) (by decide) (by decide)) (v1 5 (by decide) (by decide) (by decide) (by decide))
    · rw [r82]
      exact i2.rows fun d hd hd2 => v1 _ (by omega) (by omega) (by omega) (by omega)
    · obtain ⟨z, x', hz, hx, -, x2, -⟩ := k0.2.2.2.2.1
      rw [v0 16 2 (by decide) (by omega) (by decide), v0 16 3 (by decide) (by omega) (by decide), u 80 8 (by omega) (by decide), stI_s, hg2, stI_s, ri_k (by decide), ri_p (by decide), ri_p (by decide), e1.i 16 2 rfl, x2]
      exact RgP.clear _ _ _ _ _ hx
    · refine ⟨0, by omega, ?_, ?_, fun j hj => ?_⟩
      · rw [v0 0 1 (by decide) (by omega) (by decide), hg2, ri_p (by decide), stI_s]
        rfl
      · rw [u 80 13 (by omega) (by decide), ri_k (by decide), e5.i 80 13 rfl, ri_k (by decide), stI_s]
        rfl
      · rw [v0 1 j (by decide) (by omega) (by decide), hg2, ri_p (by decide), ri_p (by decide), ri_p (by decide), e1.i 1 j rfl, u 89 j (by omega) (by decide), ri_p (by decide), e5.i 89 j rfl, ri_p (by decide), ri_p (by decide), ri_p (by decide), (F 89 j (by omega) (by omega)).1]
        exact t3 j hj
    · obtain ⟨z1, z2, z3, z4⟩ := k0.2.2.2.2.2.2.2.2.1
      refine ⟨?_, ?_, ?_, ?_⟩
      · rw [g0 15 (by decide) (by decide) (by decide), w80 18 (by decide) (by decide) (by decide) (by decide) (by decide)]; exact z1
      · rw [v0 0 16 (by decide) (by omega) (by decide), hg2, ri_p (by decide), ri_k (by decide), stI_s, u 80 11 (by omega) (by decide), ri_k (by decide), c5]
      · rw [g0 17 (by decide) (by decide) (by decide), w80 52 (by decide) (by decide) (by decide) (by decide) (by decide)]; exact z3
      · rw [w80 20 (by decide) (by decide) (by decide) (by decide) (by decide)]; exact z4
