/-! rows that are copied -/
def Cpd (q q' a c N : Nat) (h h' : AH) : Prop := h'.1 = h.1 ∧ h'.2.2 = h.2.2 ∧ (∀ p j, p ≠ q → h'.2.1 p j = h.2.1 p j) ∧ ∀ j, h'.2.1 q j = if a ≤ j ∧ j < a + N then h.2.1 q' (j - a + c) else h.2.1 q j
theorem cp_loop {β : Type} (F : Nat → Int32 → AH → Option (β × AH)) (b : β) (q q' a c N : Nat) (hd : q ≠ q' ∨ a < c) (hz : ∀ fu h, F (fu + 1) (nI N) h = some (b, h)) (hs : ∀ fu h k, k < N → F (fu + 1) (nI k) h = F fu (nI (k + 1)) (stI h q (a + k) (h.2.1 q' (c + k)))) (h : AH) : ∃ h', (∀ fu, N < fu → F fu (0 : Int32) h = some (b, h')) ∧ Cpd q q' a c N h h' := by
  have e : ∀ (t k : Nat) (h1 : AH), k + t = N → ∃ h', (∀ fu, t < fu → F fu (nI k) h1 = some (b, h')) ∧ h'.1 = h1.1 ∧ h'.2.2 = h1.2.2 ∧ (∀ p j, p ≠ q → h'.2.1 p j = h1.2.1 p j) ∧ ∀ j, h'.2.1 q j = if a + k ≤ j ∧ j < a + N then h1.2.1 q' (j - a + c) else h1.2.1 q j := by
    intro t
    induction t with
    | zero =>
      intro k h1 hk
      have : k = N := by omega
      subst this
      refine ⟨h1, fun fu hf => ?_, rfl, rfl, fun _ _ _ => rfl, fun j => (if_neg (by omega)).symm⟩
      obtain ⟨fu, rfl⟩ : ∃ x, fu = x + 1 := ⟨fu - 1, by omega⟩
      exact hz fu h1
    | succ t ih =>
      intro k h1 hk
      obtain ⟨h', r1, i1, i2, i3, i4⟩ := ih (k + 1) (stI h1 q (a + k) (h1.2.1 q' (c + k))) (by omega)
      refine ⟨h', fun fu hf => ?_, i1, i2, fun p j hp => (i3 p j hp).trans (ri_p hp), fun j => ?_⟩
      · obtain ⟨fu, rfl⟩ : ∃ x, fu = x + 1 := ⟨fu - 1, by omega⟩
        rw [hs fu h1 k (by omega)]
        exact r1 fu (by omega)
      · rw [i4]
        by_cases e1 : j = a + k
        · subst e1
          rw [if_neg (by omega), if_pos ⟨by omega, by omega⟩, stI_s, show a + k - a + c = c + k by omega]
        · by_cases e2 : a + (k + 1) ≤ j ∧ j < a + N
          · rw [if_pos e2, if_pos ⟨by omega, e2.2⟩]
            rcases hd with hd | hd
            · exact ri_p (Ne.symm hd)
            · exact ri_k (by omega)
          · rw [if_neg e2, if_neg (by omega), ri_k e1]
  obtain ⟨h', r1, r2⟩ := e N 0 h (by omega)
  exact ⟨h', fun fu hf => r1 fu hf, r2⟩
theorem Cpd.k {q q' a c N : Nat} {h h' : AH} (k : Cpd q q' a c N h h') : h'.1 = h.1 := k.1
theorem Cpd.n {q q' a c N : Nat} {h h' : AH} (k : Cpd q q' a c N h h') {p j : Nat} (hp : p ≠ q) : h'.2.1 p j = h.2.1 p j := k.2.2.1 p j hp
theorem Cpd.row {q q' a c N : Nat} {h h' : AH} (k : Cpd q q' a c N h h') {p : Nat} (hp : p ≠ q) : h'.2.1 p = h.2.1 p := funext fun j => k.2.2.1 p j hp
theorem Cpd.i {q q' a c N : Nat} {h h' : AH} (k : Cpd q q' a c N h h') {j : Nat} (hj : j < N) : h'.2.1 q (a + j) = h.2.1 q' (c + j) := by
  rw [k.2.2.2, if_pos ⟨by omega, by omega⟩, show a + j - a + c = c + j by omega]
theorem Cpd.o {q q' a c N : Nat} {h h' : AH} (k : Cpd q q' a c N h h') {j : Nat} (hj : j < a ∨ a + N ≤ j) : h'.2.1 q j = h.2.1 q j := by
  rw [k.2.2.2, if_neg (by omega)]
theorem Cpd.eq {q q' a c N : Nat} {h h' : AH} (k : Cpd q q' a c N h h') {P : Nat → Nat → Bool} (hP : ∀ j, a ≤ j → j < a + N → P q j = true) : Eqv P h h' := by
  refine ⟨k.1, fun p j n => ?_, fun p j _ => congrFun (congrFun (congrArg Prod.fst k.2.1) p) j, congrArg Prod.snd k.2.1⟩
  by_cases e : p = q
  · subst e
    refine k.o ?_
    apply Decidable.byContradiction
    intro z
    rw [hP j (by omega) (by omega)] at n
    cases n
  · exact k.n e
theorem cpI_of {h : AH} {a b n0 n1 sp dp n : Nat} (ha : KD S_1 h a = some (1, n0)) (hb : KD S_1 h b = some (1, n1)) (h0 : sp + n ≤ n0) (h1 : dp + n ≤ n1) (hz : n0 < 2 ^ 31 ∧ n1 < 2 ^ 31) : ∃ h', cpI S_1 h a (nI sp) b (nI dp) (nI n) = some h' ∧ Cpd b a dp sp n h h' := by
  refine ⟨cpyI h a sp b dp n, ?_, rfl, rfl, fun p j hp => ?_, fun j => ?_⟩
  · unfold cpI
    rw [ha, hb, nI_clamp (show sp < 2 ^ 31 by omega), nI_clamp (show dp < 2 ^ 31 by omega), nI_clamp (show n < 2 ^ 31 by omega)]
    refine if_neg ?_
    rintro (e | e | e | e | e)
    · exact nI_pos (by omega) e
    · exact nI_pos (by omega) e
    · exact nI_pos (by omega) e
    · omega
    · omega
  · show (if p = b then _ else _) = _
    rw [if_neg hp]
  · show (if b = b then va_cpy (h.2.1 a) (h.2.1 b) sp dp n j else _) = _
    rw [if_pos rfl]
    unfold va_cpy
    by_cases e : dp ≤ j ∧ j < dp + n
    · rw [if_pos e, if_pos e]
      exact congrArg _ (by omega)
    · rw [if_neg e, if_neg e]
theorem m_keepAll (h : AH) {k : Nat} (hk : k < 18) : ∃ h', f_X11_keepAll S_1 80 (nI k) h = some ((), h') ∧ Cpd 85 82 (18 * k) 5 18 h h' := by
  obtain ⟨h', r1, c1⟩ := cp_loop (fun fu x h => f_X11_keepAll_l2 S_1 fu 80 (nI k) x h) () 85 82 (18 * k) 5 18 (Or.inl (by decide)) (fun fu h => by
    show f_X11_keepAll_l2 S_1 (fu + 1) 80 (nI k) (nI 18) h = _
    rw [f_X11_keepAll_l2]
    rfl) (fun fu h i hi => by
    show f_X11_keepAll_l2 S_1 (fu + 1) 80 (nI k) (nI i) h = f_X11_keepAll_l2 S_1 fu 80 (nI k) (nI (i + 1)) _
    rw [f_X11_keepAll_l2]
    unfold f_X11_keepAll_l2b
    rw [if_neg (by rw [show (18 : Int32) = nI 18 from rfl, nn_le (by decide) (by omega)]; omega)]
    simp (disch := first | rfl | decide | omega | (simp (disch := first | omega | decide) only [nI_l1, nI_l2, nI_l3, nI_l4, nI_add, nI_mul_]; exact ix_n (by omega) (by omega)) | (exact ix_n (by omega) (by omega)) | (exact ix_l (by decide) (by decide)) | assumption) only [↓zI, ↓zP, ↓zZ, ↓zC, ↓zJ, ↓zQ, ↓zE, ↓zK, ↓zF, ↓zD, ↓zr_0_0, ↓zr_0_2, ↓zr_0_3, ↓zr_0_4, ↓zr_0_5, ↓zr_0_6, ↓zr_0_7, ↓zr_0_8, ↓zr_0_9, ↓zr_0_10, ↓zr_0_11, ↓zr_0_12, ↓zr_0_13, ↓zr_2_0, ↓zr_2_2, ↓zr_2_3, ↓zr_2_5, ↓zr_2_6, ↓zr_2_11, ↓zr_2_13, ↓zr_2_14, ↓zr_3_0, ↓zr_3_1, ↓zr_12_0, ↓zr_12_1, ↓zr_16_0, ↓zr_16_1, ↓zr_19_0, ↓zr_19_1, ↓zr_22_0, ↓zr_22_1, ↓zr_25_0, ↓zr_25_1, ↓zr_28_0, ↓zr_29_0, ↓zr_29_1, ↓zr_32_0, ↓zr_32_1, ↓zr_35_0, ↓zr_35_1, ↓zr_35_4, ↓zr_35_5, ↓zr_38_0, ↓zr_38_1, ↓zr_38_2, ↓zr_38_3, ↓zr_38_4, ↓zr_39_0, ↓zr_39_1, ↓zr_45_0, ↓zr_45_1, ↓zr_46_0, ↓zr_46_1, ↓zr_46_2, ↓zr_50_0, ↓zr_50_1, ↓zr_54_0, ↓zr_54_2, ↓zr_54_3, ↓zr_54_5, ↓zr_54_6, ↓zr_54_11, ↓zr_54_13, ↓zr_54_14, ↓zr_55_0, ↓zr_55_1, ↓zr_64_0, ↓zr_64_1, ↓zr_67_0, ↓zr_67_2, ↓zr_67_3, ↓zr_67_5, ↓zr_67_6, ↓zr_67_11, ↓zr_67_13, ↓zr_67_14, ↓zr_68_0, ↓zr_68_1, ↓zr_77_0, ↓zr_77_1, ↓zr_80_2, ↓zr_80_3, ↓zr_80_4, ↓zr_80_5, ↓zr_80_6, ↓zr_80_7, ↓zr_80_9, ↓zr_80_10, ↓zr_80_12, ↓zr_80_22, ↓zr_80_24, ↓zr_80_25, ↓zr_80_27, ↓zr_80_28, ↓zr_80_31, ↓zr_80_32, ↓zr_80_33, ↓zr_80_35, ↓zr_80_36, ↓zr_80_37, ↓zr_80_41, ↓zr_80_42, ↓zr_80_43, ↓zr_80_44, ↓zr_80_46, ↓zr_80_47, ↓zr_80_48, ↓zr_80_49, ↓zr_80_55, ↓za_1, ↓zs_1, ↓zl_1, ↓za_4, ↓zs_4, ↓zl_4, ↓za_5, ↓zs_5, ↓zl_5, ↓za_6, ↓zs_6, ↓zl_6, ↓za_7, ↓zs_7, ↓zl_7, ↓za_8, ↓zs_8, ↓zl_8, ↓za_9, ↓zs_9, ↓zl_9, ↓za_10, ↓zs_10, ↓zl_10, ↓za_17, ↓zs_17, ↓zl_17, ↓za_18, ↓zs_18, ↓zl_18, ↓za_20, ↓zs_20, ↓zl_20, ↓za_21, ↓zs_21, ↓zl_21, ↓za_23, ↓zs_23, ↓zl_23, ↓za_24, ↓zs_24, ↓zl_24, ↓za_26, ↓zs_26, ↓zl_26, ↓za_27, ↓zs_27, ↓zl_27, ↓za_30, ↓zs_30, ↓zl_30, ↓za_31, ↓zs_31, ↓zl_31, ↓za_33, ↓zs_33, ↓zl_33, ↓za_34, ↓zs_34, ↓zl_34, ↓za_36, ↓zs_36, ↓zl_36, ↓za_37, ↓zs_37, ↓zl_37, ↓za_40, ↓zs_40, ↓zl_40, ↓za_41, ↓zs_41, ↓zl_41, ↓za_42, ↓zs_42, ↓zl_42, ↓za_43, ↓zs_43, ↓zl_43, ↓za_44, ↓zs_44, ↓zl_44, ↓za_47, ↓zs_47, ↓zl_47, ↓za_48, ↓zs_48, ↓zl_48, ↓za_49, ↓zs_49, ↓zl_49, ↓za_51, ↓zs_51, ↓zl_51, ↓za_52, ↓zs_52, ↓zl_52, ↓za_53, ↓zs_53, ↓zl_53, ↓za_56, ↓zs_56, ↓zl_56, ↓za_57, ↓zs_57, ↓zl_57, ↓za_58, ↓zs_58, ↓zl_58, ↓za_59, ↓zs_59, ↓zl_59, ↓za_60, ↓zs_60, ↓zl_60, ↓za_61, ↓zs_61, ↓zl_61, ↓za_62, ↓zs_62, ↓zl_62, ↓za_69, ↓zs_69, ↓zl_69, ↓za_70, ↓zs_70, ↓zl_70, ↓za_71, ↓zs_71, ↓zl_71, ↓za_72, ↓zs_72, ↓zl_72, ↓za_73, ↓zs_73, ↓zl_73, ↓za_74, ↓zs_74, ↓zl_74, ↓za_75, ↓zs_75, ↓zl_75, ↓za_81, ↓zs_81, ↓zl_81, ↓za_82, ↓zs_82, ↓zl_82, ↓za_83, ↓zs_83, ↓zl_83, ↓za_84, ↓zs_84, ↓zl_84, ↓za_85, ↓zs_85, ↓zl_85, ↓za_86, ↓zs_86, ↓zl_86, ↓za_87, ↓zs_87, ↓zl_87, ↓za_88, ↓zs_88, ↓zl_88, ↓za_89, ↓zs_89, ↓zl_89, ↓za_90, ↓zs_90, ↓zl_90, ↓za_91, ↓zs_91, ↓zl_91, ↓za_92, ↓zs_92, ↓zl_92, ↓za_93, ↓zs_93, ↓zl_93, ↓za_94, ↓zs_94, ↓zl_94, ↓za_95, ↓zs_95, ↓zl_95, ↓za_96, ↓zs_96, ↓zl_96, ↓za_97, ↓zs_97, ↓zl_97, ↓za_98, ↓zs_98, ↓zl_98, ↓za_99, ↓zs_99, ↓zl_99, ↓za_100, ↓zs_100, ↓zl_100, ↓za_101, ↓zs_101, ↓zl_101, ↓za_102, ↓zs_102, ↓zl_102, ↓za_103, ↓zs_103, ↓zl_103, ↓za_104, ↓zs_104, ↓zl_104, ↓za_105, ↓zs_105, ↓zl_105, ↓za_106, ↓zs_106, ↓zl_106, ↓za_107, ↓zs_107, ↓zl_107, ↓za_108, ↓zs_108, ↓zl_108, ↓za_109, ↓zs_109, ↓zl_109, hand_id, n01, n05, ob, Nat.zero_le, Nat.not_lt_zero, i10, i01, i12, i21, i20, i02, nl_le1, nl_le2, nl_lt1, nl_lt2, nl_eq1, nl_eq2, nn_le, nn_lt, nn_eq, nl_m1, m1_nl, z_lt, z_le, z_le2, z_lt2, z_eq, nI_l1, nI_l2, nI_l3, nI_l4, nI_add, nI_mul_, tn_n, tn_l, bI_0, bI_1, bI_z, bI_t, bI_f, Bool.false_eq_true, Bool.true_eq_false, eq_self, if_true, if_false, ↓reduceIte, reduceCtorEq, not_true_eq_false, not_false_eq_true, stI_s, stJ_s, ri_p, ri_k, ri_j, ri_1, ri_2, rj_i, rj_1, rj_2, rj_p, rj_k]) h
  refine ⟨h', ?_, c1⟩
  unfold f_X11_keepAll
  rw [bs_ (r1 FU (by unfold FU; decide))]
theorem m_putBack (h : AH) {k : Nat} (hk : k < 18) : ∃ h', f_X11_putBack S_1 80 (nI k) h = some ((), h') ∧ Cpd 82 85 5 (18 * k) 18 h h' := by
  obtain ⟨h', r1, c1⟩ := cp_loop (fun fu x h => f_X11_putBack_l2 S_1 fu 80 (nI k) x h) () 82 85 5 (18 * k) 18 (Or.inl (by decide)) (fun fu h => by
    show f_X11_putBack_l2 S_1 (fu + 1) 80 (nI k) (nI 18) h = _
    rw [f_X11_putBack_l2]
    rfl) (fun fu h i hi => by
    show f_X11_putBack_l2 S_1 (fu + 1) 80 (nI k) (nI i) h = f_X11_putBack_l2 S_1 fu 80 (nI k) (nI (i + 1)) _
    rw [f_X11_putBack_l2]
    unfold f_X11_putBack_l2b
    rw [if_neg (by rw [show (18 : Int32) = nI 18 from rfl, nn_le (by decide) (by omega)]; omega)]
    simp (disch := first | rfl | decide | omega | (simp (disch := first | omega | decide) only [nI_l1, nI_l2, nI_l3, nI_l4, nI_add, nI_mul_]; exact ix_n (by omega) (by omega)) | (exact ix_n (by omega) (by omega)) | (exact ix_l (by decide) (by decide)) | assumption) only [↓zI, ↓zP, ↓zZ, ↓zC, ↓zJ, ↓zQ, ↓zE, ↓zK, ↓zF, ↓zD, ↓zr_0_0, ↓zr_0_2, ↓zr_0_3, ↓zr_0_4, ↓zr_0_5, ↓zr_0_6, ↓zr_0_7, ↓zr_0_8, ↓zr_0_9, ↓zr_0_10, ↓zr_0_11, ↓zr_0_12, ↓zr_0_13, ↓zr_2_0, ↓zr_2_2, ↓zr_2_3, ↓zr_2_5, ↓zr_2_6, ↓zr_2_11, ↓zr_2_13, ↓zr_2_14, ↓zr_3_0, ↓zr_3_1, ↓zr_12_0, ↓zr_12_1, ↓zr_16_0, ↓zr_16_1, ↓zr_19_0, ↓zr_19_1, ↓zr_22_0, ↓zr_22_1, ↓zr_25_0, ↓zr_25_1, ↓zr_28_0, ↓zr_29_0, ↓zr_29_1, ↓zr_32_0, ↓zr_32_1, ↓zr_35_0, ↓zr_35_1, ↓zr_35_4, ↓zr_35_5, ↓zr_38_0, ↓zr_38_1, ↓zr_38_2, ↓zr_38_3, ↓zr_38_4, ↓zr_39_0, ↓zr_39_1, ↓zr_45_0, ↓zr_45_1, ↓zr_46_0, ↓zr_46_1, ↓zr_46_2, ↓zr_50_0, ↓zr_50_1, ↓zr_54_0, ↓zr_54_2, ↓zr_54_3, ↓zr_54_5, ↓zr_54_6, ↓zr_54_11, ↓zr_54_13, ↓zr_54_14, ↓zr_55_0, ↓zr_55_1, ↓zr_64_0, ↓zr_64_1, ↓zr_67_0, ↓zr_67_2, ↓zr_67_3, ↓zr_67_5, ↓zr_67_6, ↓zr_67_11, ↓zr_67_13, ↓zr_67_14, ↓zr_68_0, ↓zr_68_1, ↓zr_77_0, ↓zr_77_1, ↓zr_80_2, ↓zr_80_3, ↓zr_80_4, ↓zr_80_5, ↓zr_80_6, ↓zr_80_7, ↓zr_80_9, ↓zr_80_10, ↓zr_80_12, ↓zr_80_22, ↓zr_80_24, ↓zr_80_25, ↓zr_80_27, ↓zr_80_28, ↓zr_80_31, ↓zr_80_32, ↓zr_80_33, ↓zr_80_35, ↓zr_80_36, ↓zr_80_37, ↓zr_80_41, ↓zr_80_42, ↓zr_80_43, ↓zr_80_44, ↓zr_80_46, ↓zr_80_47, ↓zr_80_48, ↓zr_80_49, ↓zr_80_55, ↓za_1, ↓zs_1, ↓zl_1, ↓za_4, ↓zs_4, ↓zl_4, ↓za_5, ↓zs_5, ↓zl_5, ↓za_6, ↓zs_6, ↓zl_6, ↓za_7, ↓zs_7, ↓zl_7, ↓za_8, ↓zs_8, ↓zl_8, ↓za_9, ↓zs_9, ↓zl_9, ↓za_10, ↓zs_10, ↓zl_10, ↓za_17, ↓zs_17, ↓zl_17, ↓za_18, ↓zs_18, ↓zl_18, ↓za_20, ↓zs_20, ↓zl_20, ↓za_21, ↓zs_21, ↓zl_21, ↓za_23, ↓zs_23, ↓zl_23, ↓za_24, ↓zs_24, ↓zl_24, ↓za_26, ↓zs_26, ↓zl_26, ↓za_27, ↓zs_27, ↓zl_27, ↓za_30, ↓zs_30, ↓zl_30, ↓za_31, ↓zs_31, ↓zl_31, ↓za_33, ↓zs_33, ↓zl_33, ↓za_34, ↓zs_34, ↓zl_34, ↓za_36, ↓zs_36, ↓zl_36, ↓za_37, ↓zs_37, ↓zl_37, ↓za_40, ↓zs_40, ↓zl_40, ↓za_41, ↓zs_41, ↓zl_41, ↓za_42, ↓zs_42, ↓zl_42, ↓za_43, ↓zs_43, ↓zl_43, ↓za_44, ↓zs_44, ↓zl_44, ↓za_47, ↓zs_47, ↓zl_47, ↓za_48, ↓zs_48, ↓zl_48, ↓za_49, ↓zs_49, ↓zl_49, ↓za_51, ↓zs_51, ↓zl_51, ↓za_52, ↓zs_52, ↓zl_52, ↓za_53, ↓zs_53, ↓zl_53, ↓za_56, ↓zs_56, ↓zl_56, ↓za_57, ↓zs_57, ↓zl_57, ↓za_58, ↓zs_58, ↓zl_58, ↓za_59, ↓zs_59, ↓zl_59, ↓za_60, ↓zs_60, ↓zl_60, ↓za_61, ↓zs_61, ↓zl_61, ↓za_62, ↓zs_62, ↓zl_62, ↓za_69, ↓zs_69, ↓zl_69, ↓za_70, ↓zs_70, ↓zl_70, ↓za_71, ↓zs_71, ↓zl_71, ↓za_72, ↓zs_72, ↓zl_72, ↓za_73, ↓zs_73, ↓zl_73, ↓za_74, ↓zs_74, ↓zl_74, ↓za_75, ↓zs_75, ↓zl_75, ↓za_81, ↓zs_81, ↓zl_81, ↓za_82, ↓zs_82, ↓zl_82, ↓za_83, ↓zs_83, ↓zl_83, ↓za_84, ↓zs_84, ↓zl_84, ↓za_85, ↓zs_85, ↓zl_85, ↓za_86, ↓zs_86, ↓zl_86, ↓za_87, ↓zs_87, ↓zl_87, ↓za_88, ↓zs_88, ↓zl_88, ↓za_89, ↓zs_89, ↓zl_89, ↓za_90, ↓zs_90, ↓zl_90, ↓za_91, ↓zs_91, ↓zl_91, ↓za_92, ↓zs_92, ↓zl_92, ↓za_93, ↓zs_93, ↓zl_93, ↓za_94, ↓zs_94, ↓zl_94, ↓za_95, ↓zs_95, ↓zl_95, ↓za_96, ↓zs_96, ↓zl_96, ↓za_97, ↓zs_97, ↓zl_97, ↓za_98, ↓zs_98, ↓zl_98, ↓za_99, ↓zs_99, ↓zl_99, ↓za_100, ↓zs_100, ↓zl_100, ↓za_101, ↓zs_101, ↓zl_101, ↓za_102, ↓zs_102, ↓zl_102, ↓za_103, ↓zs_103, ↓zl_103, ↓za_104, ↓zs_104, ↓zl_104, ↓za_105, ↓zs_105, ↓zl_105, ↓za_106, ↓zs_106, ↓zl_106, ↓za_107, ↓zs_107, ↓zl_107, ↓za_108, ↓zs_108, ↓zl_108, ↓za_109, ↓zs_109, ↓zl_109, hand_id, n01, n05, ob, Nat.zero_le, Nat.not_lt_zero, i10, i01, i12, i21, i20, i02, nl_le1, nl_le2, nl_lt1, nl_lt2, nl_eq1, nl_eq2, nn_le, nn_lt, nn_eq, nl_m1, m1_nl, z_lt, z_le, z_le2, z_lt2, z_eq, nI_l1, nI_l2, nI_l3, nI_l4, nI_add, nI_mul_, tn_n, tn_l, bI_0, bI_1, bI_z, bI_t, bI_f, Bool.false_eq_true, Bool.true_eq_false, eq_self, if_true, if_false, ↓reduceIte, reduceCtorEq, not_true_eq_false, not_false_eq_true, stI_s, stJ_s, ri_p, ri_k, ri_j, ri_1, ri_2, rj_i, rj_1, rj_2, rj_p, rj_k]) h
  refine ⟨h', ?_, c1⟩
  unfold f_X11_putBack
  rw [bs_ (r1 FU (by unfold FU; decide))]
def PR (p j : Nat) : Bool := decide (p = 85 ∧ j < 288 ∨ p = 86 ∨ p = 80 ∧ j = 8)
theorem m_remember (h : AH) {z s : Nat} (hz : z ≤ 16) (h8 : h.2.1 80 8 = nI z) : ∃ h' d, f_X11_remember S_1 80 (nI s) h = some ((), h') ∧ Eqv PR h h' ∧ d ≤ 1 ∧ z - d ≤ 15 ∧ d ≤ z ∧ (z < 16 → d = 0) ∧ h'.2.1 80 8 = nI (z - d + 1) ∧ (∀ i j, i < z - d → j < 18 → h'.2.1 85 (18 * i + j) = h.2.1 85 (18 * (i + d) + j)) ∧ (∀ i, i < z - d → h'.2.1 86 i = h.2.1 86 (i + d)) ∧ (∀ j, j < 18 → h'.2.1 85 (18 * (z - d) + j) = h.2.1 82 (5 + j)) ∧ h'.2.1 86 (z - d) = nI s := by
  have j77 : ∀ (h1 : AH) (y : Nat), y ≤ 15 → h1.2.1 80 8 = nI y → ∃ h', f_X11_remember_j77 S_1 80 (nI s) h1 = some ((), h') ∧ Eqv PR h1 h' ∧ h'.2.1 80 8 = nI (y + 1) ∧ (∀ j, j < 18 * y → h'.2.1 85 j = h1.2.1 85 j) ∧ (∀ i, i < y → h'.2.1 86 i = h1.2.1 86 i) ∧ (∀ j, j < 18 → h'.2.1 85 (18 * y + j) = h1.2.1 82 (5 + j)) ∧ h'.2.1 86 y = nI s := by
    intro h1 y hy h81
    obtain ⟨h2, r2, c2⟩ := m_keepAll h1 (show y < 18 by omega)
    unfold f_X11_remember_j77
    rw [bs_ (yi_80 h1 8), h81, bs_ (ck_80 h1), bs_ r2]
    dsimp only
    have g8 : h2.2.1 80 8 = nI y := (c2.n (by decide)).trans h81
    rw [bs_ (yr_80_7 h2), bs_ (yi_80 h2 8), g8, bs_ (si_86 h2 _ (by omega)), bs_ (yi_80 _ 8), ri_p (by decide), g8, bs_ (xi_80 _ 8 _), nI_1]
    have E2 : Eqv PR h1 h2 := c2.eq fun j _ hj => decide_eq_true (Or.inl ⟨rfl, by omega⟩)
    refine ⟨_, rfl, (E2.si (decide_eq_true (Or.inr (Or.inl rfl)))).si (decide_eq_true (Or.inr (Or.inr ⟨rfl, rfl⟩))), stI_s _ 80 8 _, fun j hj => ?_, fun i hi => ?_, fun j hj => ?_, ?_⟩
    · rw [ri_p (by decide), ri_p (by decide), c2.o (by omega)]
    · rw [ri_p (by decide), ri_k (by omega), c2.n (by decide)]
    · rw [ri_p (by decide), ri_p (by decide), c2.i hj]
    · rw [ri_p (by decide), stI_s]
  unfold f_X11_remember
  rw [bs_ (yi_80 h 8), h8]
  by_cases e : z = 16
  · subst e
    rw [if_pos (by decide)]
    obtain ⟨h1, r1, c1⟩ := cp_loop (fun fu x h => f_X11_remember_l11 S_1 fu 80 (nI s) x h) (80, nI s) 85 85 0 18 270 (Or.inr (by decide)) (fun fu h => by
      show f_X11_remember_l11 S_1 (fu + 1) 80 (nI s) (nI 270) h = _
      rw [f_X11_remember_l11]
      rfl) (fun fu h i hi => by
      show f_X11_remember_l11 S_1 (fu + 1) 80 (nI s) (nI i) h = f_X11_remember_l11 S_1 fu 80 (nI s) (nI (i + 1)) _
      rw [f_X11_remember_l11]
      unfold f_X11_remember_l11b
      rw [if_neg (by rw [show (270 : Int32) = nI 270 from rfl, nn_le (by decide) (by omega)]; omega)]
      simp (disch := first | rfl | decide | omega | (simp (disch := first | omega | decide) only [nI_l1, nI_l2, nI_l3, nI_l4, nI_add, nI_mul_]; exact ix_n (by omega) (by omega)) | (exact ix_n (by omega) (by omega)) | (exact ix_l (by decide) (by decide)) | assumption) only [↓zI, ↓zP, ↓zZ, ↓zC, ↓zJ, ↓zQ, ↓zE, ↓zK, ↓zF, ↓zD, ↓zr_0_0, ↓zr_0_2, ↓zr_0_3, ↓zr_0_4, ↓zr_0_5, ↓zr_0_6, ↓zr_0_7, ↓zr_0_8, ↓zr_0_9, ↓zr_0_10, ↓zr_0_11, ↓zr_0_12, ↓zr_0_13, ↓zr_2_0, ↓zr_2_2, ↓zr_2_3, ↓zr_2_5, ↓zr_2_6, ↓zr_2_11, ↓zr_2_13, ↓zr_2_14, ↓zr_3_0, ↓zr_3_1, ↓zr_12_0, ↓zr_12_1, ↓zr_16_0, ↓zr_16_1, ↓zr_19_0, ↓zr_19_1, ↓zr_22_0, ↓zr_22_1, ↓zr_25_0, ↓zr_25_1, ↓zr_28_0, ↓zr_29_0, ↓zr_29_1, ↓zr_32_0, ↓zr_32_1, ↓zr_35_0, ↓zr_35_1, ↓zr_35_4, ↓zr_35_5, ↓zr_38_0, ↓zr_38_1, ↓zr_38_2, ↓zr_38_3, ↓zr_38_4, ↓zr_39_0, ↓zr_39_1, ↓zr_45_0, ↓zr_45_1, ↓zr_46_0, ↓zr_46_1, ↓zr_46_2, ↓zr_50_0, ↓zr_50_1, ↓zr_54_0, ↓zr_54_2, ↓zr_54_3, ↓zr_54_5, ↓zr_54_6, ↓zr_54_11, ↓zr_54_13, ↓zr_54_14, ↓zr_55_0, ↓zr_55_1, ↓zr_64_0, ↓zr_64_1, ↓zr_67_0, ↓zr_67_2, ↓zr_67_3, ↓zr_67_5, ↓zr_67_6, ↓zr_67_11, ↓zr_67_13, ↓zr_67_14, ↓zr_68_0, ↓zr_68_1, ↓zr_77_0, ↓zr_77_1, ↓zr_80_2, ↓zr_80_3, ↓zr_80_4, ↓zr_80_5, ↓zr_80_6, ↓zr_80_7, ↓zr_80_9, ↓zr_80_10, ↓zr_80_12, ↓zr_80_22, ↓zr_80_24, ↓zr_80_25, ↓zr_80_27, ↓zr_80_28, ↓zr_80_31, ↓zr_80_32, ↓zr_80_33, ↓zr_80_35, ↓zr_80_36, ↓zr_80_37, ↓zr_80_41, ↓zr_80_42, ↓zr_80_43, ↓zr_80_44, ↓zr_80_46, ↓zr_80_47, ↓zr_80_48, ↓zr_80_49, ↓zr_80_55, ↓za_1, ↓zs_1, ↓zl_1, ↓za_4, ↓zs_4, ↓zl_4, ↓za_5, ↓zs_5, ↓zl_5, ↓za_6, ↓zs_6, ↓zl_6, ↓za_7, ↓zs_7, ↓zl_7, ↓za_8, ↓zs_8, ↓zl_8, ↓za_9, ↓zs_9, ↓zl_9, ↓za_10, ↓zs_10, ↓zl_10, ↓za_17, ↓zs_17, ↓zl_17, ↓za_18, ↓zs_18, ↓zl_18, ↓za_20, ↓zs_20, ↓zl_20, ↓za_21, ↓zs_21, ↓zl_21, ↓za_23, ↓zs_23, ↓zl_23, ↓za_24, ↓zs_24, ↓zl_24, ↓za_26, ↓zs_26, ↓zl_26, ↓za_27, ↓zs_27, ↓zl_27, ↓za_30, ↓zs_30, ↓zl_30, ↓za_31, ↓zs_31, ↓zl_31, ↓za_33, ↓zs_33, ↓zl_33, ↓za_34, ↓zs_34, ↓zl_34, ↓za_36, ↓zs_36, ↓zl_36, ↓za_37, ↓zs_37, ↓zl_37, ↓za_40, ↓zs_40, ↓zl_40, ↓za_41, ↓zs_41, ↓zl_41, ↓za_42, ↓zs_42, ↓zl_42, ↓za_43, ↓zs_43, ↓zl_43, ↓za_44, ↓zs_44, ↓zl_44, ↓za_47, ↓zs_47, ↓zl_47, ↓za_48, ↓zs_48, ↓zl_48, ↓za_49, ↓zs_49, ↓zl_49, ↓za_51, ↓zs_51, ↓zl_51, ↓za_52, ↓zs_52, ↓zl_52, ↓za_53, ↓zs_53, ↓zl_53, ↓za_56, ↓zs_56, ↓zl_56, ↓za_57, ↓zs_57, ↓zl_57, ↓za_58, ↓zs_58, ↓zl_58, ↓za_59, ↓zs_59, ↓zl_59, ↓za_60, ↓zs_60, ↓zl_60, ↓za_61, ↓zs_61, ↓zl_61, ↓za_62, ↓zs_62, ↓zl_62, ↓za_69, ↓zs_69, ↓zl_69, ↓za_70, ↓zs_70, ↓zl_70, ↓za_71, ↓zs_71, ↓zl_71, ↓za_72, ↓zs_72, ↓zl_72, ↓za_73, ↓zs_73, ↓zl_73, ↓za_74, ↓zs_74, ↓zl_74, ↓za_75, ↓zs_75, ↓zl_75, ↓za_81, ↓zs_81, ↓zl_81, ↓za_82, ↓zs_82, ↓zl_82, ↓za_83, ↓zs_83, ↓zl_83, ↓za_84, ↓zs_84, ↓zl_84, ↓za_85, ↓zs_85, ↓zl_85, ↓za_86, ↓zs_86, ↓zl_86, ↓za_87, ↓zs_87, ↓zl_87, ↓za_88, ↓zs_88, ↓zl_88, ↓za_89, ↓zs_89, ↓zl_89, ↓za_90, ↓zs_90, ↓zl_90, ↓za_91, ↓zs_91, ↓zl_91, ↓za_92, ↓zs_92, ↓zl_92, ↓za_93, ↓zs_93, ↓zl_93, ↓za_94, ↓zs_94, ↓zl_94, ↓za_95, ↓zs_95, ↓zl_95, ↓za_96, ↓zs_96, ↓zl_96, ↓za_97, ↓zs_97, ↓zl_97, ↓za_98, ↓zs_98, ↓zl_98, ↓za_99, ↓zs_99, ↓zl_99, ↓za_100, ↓zs_100, ↓zl_100, ↓za_101, ↓zs_101, ↓zl_101, ↓za_102, ↓zs_102, ↓zl_102, ↓za_103, ↓zs_103, ↓zl_103, ↓za_104, ↓zs_104, ↓zl_104, ↓za_105, ↓zs_105, ↓zl_105, ↓za_106, ↓zs_106, ↓zl_106, ↓za_107, ↓zs_107, ↓zl_107, ↓za_108, ↓zs_108, ↓zl_108, ↓za_109, ↓zs_109, ↓zl_109, hand_id, n01, n05, ob, Nat.zero_le, Nat.not_lt_zero, i10, i01, i12, i21, i20, i02, nl_le1, nl_le2, nl_lt1, nl_lt2, nl_eq1, nl_eq2, nn_le, nn_lt, nn_eq, nl_m1, m1_nl, z_lt, z_le, z_le2, z_lt2, z_eq, nI_l1, nI_l2, nI_l3, nI_l4, nI_add, nI_mul_, tn_n, tn_l, bI_0, bI_1, bI_z, bI_t, bI_f, Bool.false_eq_true, Bool.true_eq_false, eq_self, if_true, if_false, ↓reduceIte, reduceCtorEq, not_true_eq_false, not_false_eq_true, stI_s, stJ_s, ri_p, ri_k, ri_j, ri_1, ri_2, rj_i, rj_1, rj_2, rj_p, rj_k]
      rw [Nat.zero_add, Nat.add_comm 18 i]) h
    obtain ⟨h2, r2, c2⟩ := cp_loop (fun fu x h => f_X11_remember_l41 S_1 fu 80 (nI s) x h) (80, nI s) 86 86 0 1 15 (Or.inr (by decide)) (fun fu h => by
      show f_X11_remember_l41 S_1 (fu + 1) 80 (nI s) (nI 15) h = _
      rw [f_X11_remember_l41]
      rfl) (fun fu h i hi => by
      show f_X11_remember_l41 S_1 (fu + 1) 80 (nI s) (nI i) h = f_X11_remember_l41 S_1 fu 80 (nI s) (nI (i + 1)) _
      rw [f_X11_remember_l41]
      unfold f_X11_remember_l41b
      rw [if_neg (by rw [show (15 : Int32) = nI 15 from rfl, nn_le (by decide) (by omega)]; omega)]
      simp (disch := first | rfl | decide | omega | (simp (disch := first | omega | decide) only [nI_l1, nI_l2, nI_l3, nI_l4, nI_add, nI_mul_]; exact ix_n (by omega) (by omega)) | (exact ix_n (by omega) (by omega)) | (exact ix_l (by decide) (by decide)) | assumption) only [↓zI, ↓zP, ↓zZ, ↓zC, ↓zJ, ↓zQ, ↓zE, ↓zK, ↓zF, ↓zD, ↓zr_0_0, ↓zr_0_2, ↓zr_0_3, ↓zr_0_4, ↓zr_0_5, ↓zr_0_6, ↓zr_0_7, ↓zr_0_8, ↓zr_0_9, ↓zr_0_10, ↓zr_0_11, ↓zr_0_12, ↓zr_0_13, ↓zr_2_0, ↓zr_2_2, ↓zr_2_3, ↓zr_2_5, ↓zr_2_6, ↓zr_2_11, ↓zr_2_13, ↓zr_2_14, ↓zr_3_0, ↓zr_3_1, ↓zr_12_0, ↓zr_12_1, ↓zr_16_0, ↓zr_16_1, ↓zr_19_0, ↓zr_19_1, ↓zr_22_0, ↓zr_22_1, ↓zr_25_0, ↓zr_25_1, ↓zr_28_0, ↓zr_29_0, ↓zr_29_1, ↓zr_32_0, ↓zr_32_1, ↓zr_35_0, ↓zr_35_1, ↓zr_35_4, ↓zr_35_5, ↓zr_38_0, ↓zr_38_1, ↓zr_38_2, ↓zr_38_3, ↓zr_38_4, ↓zr_39_0, ↓zr_39_1, ↓zr_45_0, ↓zr_45_1, ↓zr_46_0, ↓zr_46_1, ↓zr_46_2, ↓zr_50_0, ↓zr_50_1, ↓zr_54_0, ↓zr_54_2, ↓zr_54_3, ↓zr_54_5, ↓zr_54_6, ↓zr_54_11, ↓zr_54_13, ↓zr_54_14, ↓zr_55_0, ↓zr_55_1, ↓zr_64_0, ↓zr_64_1, ↓zr_67_0, ↓zr_67_2, ↓zr_67_3, ↓zr_67_5, ↓zr_67_6, ↓zr_67_11, ↓zr_67_13, ↓zr_67_14, ↓zr_68_0, ↓zr_68_1, ↓zr_77_0, ↓zr_77_1, ↓zr_80_2, ↓zr_80_3, ↓zr_80_4, ↓zr_80_5, ↓zr_80_6, ↓zr_80_7, ↓zr_80_9, ↓zr_80_10, ↓zr_80_12, ↓zr_80_22, ↓zr_80_24, ↓zr_80_25, ↓zr_80_27, ↓zr_80_28, ↓zr_80_31, ↓zr_80_32, ↓zr_80_33, ↓zr_80_35, ↓zr_80_36, ↓zr_80_37, ↓zr_80_41, ↓zr_80_42, ↓zr_80_43, ↓zr_80_44, ↓zr_80_46, ↓zr_80_47, ↓zr_80_48, ↓zr_80_49, ↓zr_80_55, ↓za_1, ↓zs_1, ↓zl_1, ↓za_4, ↓zs_4, ↓zl_4, ↓za_5, ↓zs_5, ↓zl_5, ↓za_6, ↓zs_6, ↓zl_6, ↓za_7, ↓zs_7, ↓zl_7, ↓za_8, ↓zs_8, ↓zl_8, ↓za_9, ↓zs_9, ↓zl_9, ↓za_10, ↓zs_10, ↓zl_10, ↓za_17, ↓zs_17, ↓zl_17, ↓za_18, ↓zs_18, ↓zl_18, ↓za_20, ↓zs_20, ↓zl_20, ↓za_21, ↓zs_21, ↓zl_21, ↓za_23, ↓zs_23, ↓zl_23, ↓za_24, ↓zs_24, ↓zl_24, ↓za_26, ↓zs_26, ↓zl_26, ↓za_27, ↓zs_27, ↓zl_27, ↓za_30, ↓zs_30, ↓zl_30, ↓za_31, ↓zs_31, ↓zl_31, ↓za_33, ↓zs_33, ↓zl_33, ↓za_34, ↓zs_34, ↓zl_34, ↓za_36, ↓zs_36, ↓zl_36, ↓za_37, ↓zs_37, ↓zl_37, ↓za_40, ↓zs_40, ↓zl_40, ↓za_41, ↓zs_41, ↓zl_41, ↓za_42, ↓zs_42, ↓zl_42, ↓za_43, ↓zs_43, ↓zl_43, ↓za_44, ↓zs_44, ↓zl_44, ↓za_47, ↓zs_47, ↓zl_47, ↓za_48, ↓zs_48, ↓zl_48, ↓za_49, ↓zs_49, ↓zl_49, ↓za_51, ↓zs_51, ↓zl_51, ↓za_52, ↓zs_52, ↓zl_52, ↓za_53, ↓zs_53, ↓zl_53, ↓za_56, ↓zs_56, ↓zl_56, ↓za_57, ↓zs_57, ↓zl_57, ↓za_58, ↓zs_58, ↓zl_58, ↓za_59, ↓zs_59, ↓zl_59, ↓za_60, ↓zs_60, ↓zl_60, ↓za_61, ↓zs_61, ↓zl_61, ↓za_62, ↓zs_62, ↓zl_62, ↓za_69, ↓zs_69, ↓zl_69, ↓za_70, ↓zs_70, ↓zl_70, ↓za_71, ↓zs_71, ↓zl_71, ↓za_72, ↓zs_72, ↓zl_72, ↓za_73, ↓zs_73, ↓zl_73, ↓za_74, ↓zs_74, ↓zl_74, ↓za_75, ↓zs_75, ↓zl_75, ↓za_81, ↓zs_81, ↓zl_81, ↓za_82, ↓zs_82, ↓zl_82, ↓za_83, ↓zs_83, ↓zl_83, ↓za_84, ↓zs_84, ↓zl_84, ↓za_85, ↓zs_85, ↓zl_85, ↓za_86, ↓zs_86, ↓zl_86, ↓za_87, ↓zs_87, ↓zl_87, ↓za_88, ↓zs_88, ↓zl_88, ↓za_89, ↓zs_89, ↓zl_89, ↓za_90, ↓zs_90, ↓zl_90, ↓za_91, ↓zs_91, ↓zl_91, ↓za_92, ↓zs_92, ↓zl_92, ↓za_93, ↓zs_93, ↓zl_93, ↓za_94, ↓zs_94, ↓zl_94, ↓za_95, ↓zs_95, ↓zl_95, ↓za_96, ↓zs_96, ↓zl_96, ↓za_97, ↓zs_97, ↓zl_97, ↓za_98, ↓zs_98, ↓zl_98, ↓za_99, ↓zs_99, ↓zl_99, ↓za_100, ↓zs_100, ↓zl_100, ↓za_101, ↓zs_101, ↓zl_101, ↓za_102, ↓zs_102, ↓zl_102, ↓za_103, ↓zs_103, ↓zl_103, ↓za_104, ↓zs_104, ↓zl_104, ↓za_105, ↓zs_105, ↓zl_105, ↓za_106, ↓zs_106, ↓zl_106, ↓za_107, ↓zs_107, ↓zl_107, ↓za_108, ↓zs_108, ↓zl_108, ↓za_109, ↓zs_109, ↓zl_109, hand_id, n01, n05, ob, Nat.zero_le, Nat.not_lt_zero, i10, i01, i12, i21, i20, i02, nl_le1, nl_le2, nl_lt1, nl_lt2, nl_eq1, nl_eq2, nn_le, nn_lt, nn_eq, nl_m1, m1_nl, z_lt, z_le, z_le2, z_lt2, z_eq, nI_l1, nI_l2, nI_l3, nI_l4, nI_add, nI_mul_, tn_n, tn_l, bI_0, bI_1, bI_z, bI_t, bI_f, Bool.false_eq_true, Bool.true_eq_false, eq_self, if_true, if_false, ↓reduceIte, reduceCtorEq, not_true_eq_false, not_false_eq_true, stI_s, stJ_s, ri_p, ri_k, ri_j, ri_1, ri_2, rj_i, rj_1, rj_2, rj_p, rj_k]
      rw [Nat.zero_add, Nat.add_comm 1 i]) h1
    rw [bs_ (r1 FU (by unfold FU; decide))]
    dsimp only
    rw [bs_ (r2 FU (by unfold FU; decide))]
    dsimp only
    rw [bs_ (yi_80 h2 8), c2.n (by decide), c1.n (by decide), h8, bs_ (xi_80 h2 8 _)]
    obtain ⟨h', r3, e3, f1, f2, f3, f4, f5⟩ := j77 (stI h2 80 8 (nI 16 - 1)) 15 (by omega) (stI_s h2 80 8 _)
    have E1 : Eqv PR h h1 := c1.eq fun j _ hj => decide_eq_true (Or.inl ⟨rfl, by omega⟩)
    have E2 : Eqv PR h1 h2 := c2.eq fun j _ hj => decide_eq_true (Or.inr (Or.inl rfl))
    have E3 : Eqv PR h (stI h2 80 8 (nI 16 - 1)) := (E1.trans E2).si (decide_eq_true (Or.inr (Or.inr ⟨rfl, rfl⟩)))
    refine ⟨h', 1, r3, E3.trans e3, by omega, by omega, by omega, fun x => by omega, f1, fun i j hi hj => ?_, fun i hi => ?_, fun j hj => ?_, f5⟩
    · rw [f2 _ (by omega), ri_p (by decide), c2.n (by decide), show 18 * i + j = 0 + (18 * i + j) by omega, c1.i (by omega), show 18 + (18 * i + j) = 18 * (i + 1) + j by omega]
    · rw [f3 _ (by omega), ri_p (by decide)]
      have := c2.i (j := i) (by omega)
      rw [Nat.zero_add, c1.n (by decide)] at this
      rw [this, Nat.add_comm]
    · rw [f4 j hj, ri_p (by decide), c2.n (by decide), c1.n (by decide)]
  · rw [if_neg (by rw [show (16 : Int32) = nI 16 from rfl, nn_eq (by omega) (by decide)]; exact e)]
    obtain ⟨h', r3, e3, f1, f2, f3, f4, f5⟩ := j77 h z (by omega) h8
    exact ⟨h', 0, r3, e3, by omega, by omega, by omega, fun _ => rfl, f1, fun i j hi hj => f2 _ (by omega), f3, f4, f5⟩
