/-! rows of the tape: who comes -/
abbrev RwT := (Nat → Int32) × Nat × Nat
def rwS (T : Nat → Int32) (t i : Nat) (s : RwT) : RwT := if okR T t i = true ∧ s.2.1 < 7 then (abR s.1 s.2.1 (T i) (T (i + 1)) (fun m => T (i + 2 + m)), s.2.1 + 1, s.2.2) else (s.1, s.2.1, s.2.2 + 1)
def rwF (T : Nat → Int32) (t : Nat) : Nat → Nat → RwT → RwT
  | 0, _, s => s
  | k + 1, i, s => if t ≤ i then s else rwF T t k (i + 8) (rwS T t i s)
theorem rw_ind {T : Nat → Int32} {t : Nat} {P : RwT → Prop} (h : ∀ i s, P s → P (rwS T t i s)) : ∀ k i s, P s → P (rwF T t k i s) := by
  intro k
  induction k with
  | zero => exact fun _ _ p => p
  | succ k ih =>
    intro i s p
    unfold rwF
    by_cases e : t ≤ i
    · rw [if_pos e]; exact p
    · rw [if_neg e]; exact ih _ _ (h i s p)
theorem alN_of {g : Nat → Bool} : ∀ (m i : Nat), alN g m i = true → ∀ j, i ≤ j → j < i + m → g j = true := by
  intro m
  induction m with
  | zero => exact fun i _ j h1 h2 => by omega
  | succ m ih =>
    intro i h j h1 h2
    unfold alN at h
    rw [Bool.and_eq_true] at h
    by_cases e : j = i
    · rw [e]; exact h.1
    · exact ih (i + 1) h.2 j (by omega) (by omega)
theorem okR_of {T : Nat → Int32} {t i : Nat} (h : okR T t i = true) : i + 8 ≤ t ∧ T i < 20 ∧ ∀ j, i + 1 ≤ j → j < i + 8 → T j ≤ 9 := by
  unfold okR at h
  rw [Bool.and_eq_true, Bool.and_eq_true] at h
  refine ⟨of_decide_eq_true h.1, of_decide_eq_true h.2.1, fun j h1 h2 => ?_⟩
  have := alN_of 7 (i + 1) h.2.2 j h1 (by omega)
  exact of_decide_eq_true this
theorem lt20_19 {x : Int32} (h : x < 20) : x ≤ 19 := by
  have e20 : (20 : Int32).toInt = 20 := by decide
  have e19 : (19 : Int32).toInt = 19 := by decide
  rw [Int32.lt_iff_toInt_lt, e20] at h
  rw [Int32.le_iff_toInt_le, e19]
  omega
theorem abR_fv {r : Nat → Int32} {n : Nat} {t g : Int32} {fv fv' : Nat → Int32} {j : Nat} (h : ¬ (30 + 6 * n ≤ j ∧ j < 30 + 6 * n + 6)) : abR r n t g fv j = abR r n t g fv' j := by
  unfold abR
  simp only [if_neg h]
theorem q_addRow {h : AH} {r T : Nat → Int32} {n i : Nat} (hS : StX h 3 r) (hR : RoX h 2 r) (hn : r 0 = nI n) (h7 : n < 7) (hT : ∀ j, j < 400 → h.2.1 1 j = T j) (hi : i + 8 ≤ 400) : ∃ h', f_X10_addBirdOfRow S_1 0 (nI i) h = some ((), h') ∧ Eqv PBd h h' ∧ StX h' 3 (abR r n (T i) (T (i + 1)) fun m => T (i + 2 + m)) ∧ RoX h' 2 (abR r n (T i) (T (i + 1)) fun m => T (i + 2 + m)) := by
  obtain ⟨h1, q1, e1, ⟨s1, s2, s3, s4⟩, ⟨⟨r0, r1, r2, r3, r4, r6, r7, r8⟩, hra, hfa, hcl, hri, hhe⟩⟩ := q_addBird hS hR hn h7 (T i) (T (i + 1))
  obtain ⟨h2, q2, c2⟩ := cp_loop (fun fu x g => f_X10_addBirdOfRow_l24 S_1 fu 0 (nI i) (nI n) x g) () 7 1 (6 * n) (i + 2) 6 (Or.inl (by decide)) (fun fu g => by
    show f_X10_addBirdOfRow_l24 S_1 (fu + 1) 0 (nI i) (nI n) (nI 6) g = _
    rw [f_X10_addBirdOfRow_l24]
    rfl) (fun fu g m hm => by
    show f_X10_addBirdOfRow_l24 S_1 (fu + 1) 0 (nI i) (nI n) (nI m) g = f_X10_addBirdOfRow_l24 S_1 fu 0 (nI i) (nI n) (nI (m + 1)) _
    rw [f_X10_addBirdOfRow_l24, Nat.mul_comm 6 n]
    unfold f_X10_addBirdOfRow_l24b
    simp (disch := first | rfl | decide | omega | (simp (disch := first | omega | decide) only [nI_l1, nI_l2, nI_l3, nI_l4, nI_add, nI_mul_]; exact ix_n (by omega) (by omega)) | (exact ix_n (by omega) (by omega)) | (exact ix_l (by decide) (by decide)) | assumption) only [show ¬ 6 ≤ m from by omega, ↓zI, ↓zP, ↓zZ, ↓zC, ↓zJ, ↓zQ, ↓zE, ↓zK, ↓zF, ↓zD, ↓zr_0_0, ↓zr_0_2, ↓zr_0_3, ↓zr_0_4, ↓zr_0_5, ↓zr_0_6, ↓zr_0_7, ↓zr_0_8, ↓zr_0_9, ↓zr_0_10, ↓zr_0_11, ↓zr_0_12, ↓zr_0_13, ↓zr_2_0, ↓zr_2_2, ↓zr_2_3, ↓zr_2_5, ↓zr_2_6, ↓zr_2_11, ↓zr_2_13, ↓zr_2_14, ↓zr_3_0, ↓zr_3_1, ↓zr_12_0, ↓zr_12_1, ↓zr_16_0, ↓zr_16_1, ↓zr_19_0, ↓zr_19_1, ↓zr_22_0, ↓zr_22_1, ↓zr_25_0, ↓zr_25_1, ↓zr_28_0, ↓zr_29_0, ↓zr_29_1, ↓zr_32_0, ↓zr_32_1, ↓zr_35_0, ↓zr_35_1, ↓zr_35_4, ↓zr_35_5, ↓zr_38_0, ↓zr_38_1, ↓zr_38_2, ↓zr_38_3, ↓zr_38_4, ↓zr_39_0, ↓zr_39_1, ↓zr_45_0, ↓zr_45_1, ↓zr_46_0, ↓zr_46_1, ↓zr_46_2, ↓zr_50_0, ↓zr_50_1, ↓zr_54_0, ↓zr_54_2, ↓zr_54_3, ↓zr_54_5, ↓zr_54_6, ↓zr_54_11, ↓zr_54_13, ↓zr_54_14, ↓zr_55_0, ↓zr_55_1, ↓zr_64_0, ↓zr_64_1, ↓zr_67_0, ↓zr_67_2, ↓zr_67_3, ↓zr_67_5, ↓zr_67_6, ↓zr_67_11, ↓zr_67_13, ↓zr_67_14, ↓zr_68_0, ↓zr_68_1, ↓zr_77_0, ↓zr_77_1, ↓zr_80_2, ↓zr_80_3, ↓zr_80_4, ↓zr_80_5, ↓zr_80_6, ↓zr_80_7, ↓zr_80_9, ↓zr_80_10, ↓zr_80_12, ↓zr_80_22, ↓zr_80_24, ↓zr_80_25, ↓zr_80_27, ↓zr_80_28, ↓zr_80_31, ↓zr_80_32, ↓zr_80_33, ↓zr_80_35, ↓zr_80_36, ↓zr_80_37, ↓zr_80_41, ↓zr_80_42, ↓zr_80_43, ↓zr_80_44, ↓zr_80_46, ↓zr_80_47, ↓zr_80_48, ↓zr_80_49, ↓zr_80_55, ↓za_1, ↓zs_1, ↓zl_1, ↓za_4, ↓zs_4, ↓zl_4, ↓za_5, ↓zs_5, ↓zl_5, ↓za_6, ↓zs_6, ↓zl_6, ↓za_7, ↓zs_7, ↓zl_7, ↓za_8, ↓zs_8, ↓zl_8, ↓za_9, ↓zs_9, ↓zl_9, ↓za_10, ↓zs_10, ↓zl_10, ↓za_17, ↓zs_17, ↓zl_17, ↓za_18, ↓zs_18, ↓zl_18, ↓za_20, ↓zs_20, ↓zl_20, ↓za_21, ↓zs_21, ↓zl_21, ↓za_23, ↓zs_23, ↓zl_23, ↓za_24, ↓zs_24, ↓zl_24, ↓za_26, ↓zs_26, ↓zl_26, ↓za_27, ↓zs_27, ↓zl_27, ↓za_30, ↓zs_30, ↓zl_30, ↓za_31, ↓zs_31, ↓zl_31, ↓za_33, ↓zs_33, ↓zl_33, ↓za_34, ↓zs_34, ↓zl_34, ↓za_36, ↓zs_36, ↓zl_36, ↓za_37, ↓zs_37, ↓zl_37, ↓za_40, ↓zs_40, ↓zl_40, ↓za_41, ↓zs_41, ↓zl_41, ↓za_42, ↓zs_42, ↓zl_42, ↓za_43, ↓zs_43, ↓zl_43, ↓za_44, ↓zs_44, ↓zl_44, ↓za_47, ↓zs_47, ↓zl_47, ↓za_48, ↓zs_48, ↓zl_48, ↓za_49, ↓zs_49, ↓zl_49, ↓za_51, ↓zs_51, ↓zl_51, ↓za_52, ↓zs_52, ↓zl_52, ↓za_53, ↓zs_53, ↓zl_53, ↓za_56, ↓zs_56, ↓zl_56, ↓za_57, ↓zs_57, ↓zl_57, ↓za_58, ↓zs_58, ↓zl_58, ↓za_59, ↓zs_59, ↓zl_59, ↓za_60, ↓zs_60, ↓zl_60, ↓za_61, ↓zs_61, ↓zl_61, ↓za_62, ↓zs_62, ↓zl_62, ↓za_69, ↓zs_69, ↓zl_69, ↓za_70, ↓zs_70, ↓zl_70, ↓za_71, ↓zs_71, ↓zl_71, ↓za_72, ↓zs_72, ↓zl_72, ↓za_73, ↓zs_73, ↓zl_73, ↓za_74, ↓zs_74, ↓zl_74, ↓za_75, ↓zs_75, ↓zl_75, ↓za_81, ↓zs_81, ↓zl_81, ↓za_82, ↓zs_82, ↓zl_82, ↓za_83, ↓zs_83, ↓zl_83, ↓za_84, ↓zs_84, ↓zl_84, ↓za_85, ↓zs_85, ↓zl_85, ↓za_86, ↓zs_86, ↓zl_86, ↓za_87, ↓zs_87, ↓zl_87, ↓za_88, ↓zs_88, ↓zl_88, ↓za_89, ↓zs_89, ↓zl_89, ↓za_90, ↓zs_90, ↓zl_90, ↓za_91, ↓zs_91, ↓zl_91, ↓za_92, ↓zs_92, ↓zl_92, ↓za_93, ↓zs_93, ↓zl_93, ↓za_94, ↓zs_94, ↓zl_94, ↓za_95, ↓zs_95, ↓zl_95, ↓za_96, ↓zs_96, ↓zl_96, ↓za_97, ↓zs_97, ↓zl_97, ↓za_98, ↓zs_98, ↓zl_98, ↓za_99, ↓zs_99, ↓zl_99, ↓za_100, ↓zs_100, ↓zl_100, ↓za_101, ↓zs_101, ↓zl_101, ↓za_102, ↓zs_102, ↓zl_102, ↓za_103, ↓zs_103, ↓zl_103, ↓za_104, ↓zs_104, ↓zl_104, ↓za_105, ↓zs_105, ↓zl_105, ↓za_106, ↓zs_106, ↓zl_106, ↓za_107, ↓zs_107, ↓zl_107, ↓za_108, ↓zs_108, ↓zl_108, ↓za_109, ↓zs_109, ↓zl_109, hand_id, n01, n05, ob, Nat.zero_le, Nat.not_lt_zero, i10, i01, i12, i21, i20, i02, nl_le1, nl_le2, nl_lt1, nl_lt2, nl_eq1, nl_eq2, nn_le, nn_lt, nn_eq, nl_m1, m1_nl, z_lt, z_le, z_le2, z_lt2, z_eq, nI_l1, nI_l2, nI_l3, nI_l4, nI_add, nI_mul_, tn_n, tn_l, bI_0, bI_1, bI_z, bI_t, bI_f, Bool.false_eq_true, Bool.true_eq_false, eq_self, if_true, if_false, ↓reduceIte, reduceCtorEq, not_true_eq_false, not_false_eq_true, stI_s, stJ_s, ri_p, ri_k, ri_j, ri_1, ri_2, rj_i, rj_1, rj_2, rj_p, rj_k]
    ) h1
  have hT1 : ∀ j, j < 400 → h1.2.1 1 j = T j := fun j hj => (e1.i 1 j rfl).trans (hT j hj)
  have n7 : ∀ p j, p ≠ 7 → h2.2.1 p j = h1.2.1 p j := fun p j hp => c2.n hp
  refine ⟨h2, ?_, e1.trans (c2.eq fun j _ _ => rfl), ⟨fun j hj => ?_, fun j hj => ?_, ?_, ?_⟩, ⟨?_, ?_, ?_, ?_, ?_, ?_, ?_, ?_⟩, fun j hj => ?_, fun j hj => ?_, fun j hj => ?_, fun j hj => ?_, fun j hj => ?_⟩
  · unfold f_X10_addBirdOfRow
    simp (disch := first | rfl | decide | omega | (simp (disch := first | omega | decide) only [nI_l1, nI_l2, nI_l3, nI_l4, nI_add, nI_mul_]; exact ix_n (by omega) (by omega)) | (exact ix_n (by omega) (by omega)) | (exact ix_l (by decide) (by decide)) | assumption) only [hT i (by omega), hT (i + 1) (by omega), bs_ q1, ↓zI, ↓zP, ↓zZ, ↓zC, ↓zJ, ↓zQ, ↓zE, ↓zK, ↓zF, ↓zD, ↓zr_0_0, ↓zr_0_2, ↓zr_0_3, ↓zr_0_4, ↓zr_0_5, ↓zr_0_6, ↓zr_0_7, ↓zr_0_8, ↓zr_0_9, ↓zr_0_10, ↓zr_0_11, ↓zr_0_12, ↓zr_0_13, ↓zr_2_0, ↓zr_2_2, ↓zr_2_3, ↓zr_2_5, ↓zr_2_6, ↓zr_2_11, ↓zr_2_13, ↓zr_2_14, ↓zr_3_0, ↓zr_3_1, ↓zr_12_0, ↓zr_12_1, ↓zr_16_0, ↓zr_16_1, ↓zr_19_0, ↓zr_19_1, ↓zr_22_0, ↓zr_22_1, ↓zr_25_0, ↓zr_25_1, ↓zr_28_0, ↓zr_29_0, ↓zr_29_1, ↓zr_32_0, ↓zr_32_1, ↓zr_35_0, ↓zr_35_1, ↓zr_35_4, ↓zr_35_5, ↓zr_38_0, ↓zr_38_1, ↓zr_38_2, ↓zr_38_3, ↓zr_38_4, ↓zr_39_0, ↓zr_39_1, ↓zr_45_0, ↓zr_45_1, ↓zr_46_0, ↓zr_46_1, ↓zr_46_2, ↓zr_50_0, ↓zr_50_1, ↓zr_54_0, ↓zr_54_2, ↓zr_54_3, ↓zr_54_5, ↓zr_54_6, ↓zr_54_11, ↓zr_54_13, ↓zr_54_14, ↓zr_55_0, ↓zr_55_1, ↓zr_64_0, ↓zr_64_1, ↓zr_67_0, ↓zr_67_2, ↓zr_67_3, ↓zr_67_5, ↓zr_67_6, ↓zr_67_11, ↓zr_67_13, ↓zr_67_14, ↓zr_68_0, ↓zr_68_1, ↓zr_77_0, ↓zr_77_1, ↓zr_80_2, ↓zr_80_3, ↓zr_80_4, ↓zr_80_5, ↓zr_80_6, ↓zr_80_7, ↓zr_80_9, ↓zr_80_10, ↓zr_80_12, ↓zr_80_22, ↓zr_80_24, ↓zr_80_25, ↓zr_80_27, ↓zr_80_28, ↓zr_80_31, ↓zr_80_32, ↓zr_80_33, ↓zr_80_35, ↓zr_80_36, ↓zr_80_37, ↓zr_80_41, ↓zr_80_42, ↓zr_80_43, ↓zr_80_44, ↓zr_80_46, ↓zr_80_47, ↓zr_80_48, ↓zr_80_49, ↓zr_80_55, ↓za_1, ↓zs_1, ↓zl_1, ↓za_4, ↓zs_4, ↓zl_4, ↓za_5, ↓zs_5, ↓zl_5, ↓za_6, ↓zs_6, ↓zl_6, ↓za_7, ↓zs_7, ↓zl_7, ↓za_8, ↓zs_8, ↓zl_8, ↓za_9, ↓zs_9, ↓zl_9, ↓za_10, ↓zs_10, ↓zl_10, ↓za_17, ↓zs_17, ↓zl_17, ↓za_18, ↓zs_18, ↓zl_18, ↓za_20, ↓zs_20, ↓zl_20, ↓za_21, ↓zs_21, ↓zl_21, ↓za_23, ↓zs_23, ↓zl_23, ↓za_24, ↓zs_24, ↓zl_24, ↓za_26, ↓zs_26, ↓zl_26, ↓za_27, ↓zs_27, ↓zl_27, ↓za_30, ↓zs_30, ↓zl_30, ↓za_31, ↓zs_31, ↓zl_31, ↓za_33, ↓zs_33, ↓zl_33, ↓za_34, ↓zs_34, ↓zl_34, ↓za_36, ↓zs_36, ↓zl_36, ↓za_37, ↓zs_37, ↓zl_37, ↓za_40, ↓zs_40, ↓zl_40, ↓za_41, ↓zs_41, ↓zl_41, ↓za_42, ↓zs_42, ↓zl_42, ↓za_43, ↓zs_43, ↓zl_43, ↓za_44, ↓zs_44, ↓zl_44, ↓za_47, ↓zs_47, ↓zl_47, ↓za_48, ↓zs_48, ↓zl_48, ↓za_49, ↓zs_49, ↓zl_49, ↓za_51, ↓zs_51, ↓zl_51, ↓za_52, ↓zs_52, ↓zl_52, ↓za_53, ↓zs_53, ↓zl_53, ↓za_56, ↓zs_56, ↓zl_56, ↓za_57, ↓zs_57, ↓zl_57, ↓za_58, ↓zs_58, ↓zl_58, ↓za_59, ↓zs_59, ↓zl_59, ↓za_60, ↓zs_60, ↓zl_60, ↓za_61, ↓zs_61, ↓zl_61, ↓za_62, ↓zs_62, ↓zl_62, ↓za_69, ↓zs_69, ↓zl_69, ↓za_70, ↓zs_70, ↓zl_70, ↓za_71, ↓zs_71, ↓zl_71, ↓za_72, ↓zs_72, ↓zl_72, ↓za_73, ↓zs_73, ↓zl_73, ↓za_74, ↓zs_74, ↓zl_74, ↓za_75, ↓zs_75, ↓zl_75, ↓za_81, ↓zs_81, ↓zl_81, ↓za_82, ↓zs_82, ↓zl_82, ↓za_83, ↓zs_83, ↓zl_83, ↓za_84, ↓zs_84, ↓zl_84, ↓za_85, ↓zs_85, ↓zl_85, ↓za_86, ↓zs_86, ↓zl_86, ↓za_87, ↓zs_87, ↓zl_87, ↓za_88, ↓zs_88, ↓zl_88, ↓za_89, ↓zs_89, ↓zl_89, ↓za_90, ↓zs_90, ↓zl_90, ↓za_91, ↓zs_91, ↓zl_91, ↓za_92, ↓zs_92, ↓zl_92, ↓za_93, ↓zs_93, ↓zl_93, ↓za_94, ↓zs_94, ↓zl_94, ↓za_95, ↓zs_95, ↓zl_95, ↓za_96, ↓zs_96, ↓zl_96, ↓za_97, ↓zs_97, ↓zl_97, ↓za_98, ↓zs_98, ↓zl_98, ↓za_99, ↓zs_99, ↓zl_99, ↓za_100, ↓zs_100, ↓zl_100, ↓za_101, ↓zs_101, ↓zl_101, ↓za_102, ↓zs_102, ↓zl_102, ↓za_103, ↓zs_103, ↓zl_103, ↓za_104, ↓zs_104, ↓zl_104, ↓za_105, ↓zs_105, ↓zl_105, ↓za_106, ↓zs_106, ↓zl_106, ↓za_107, ↓zs_107, ↓zl_107, ↓za_108, ↓zs_108, ↓zl_108, ↓za_109, ↓zs_109, ↓zl_109, hand_id, n01, n05, ob, Nat.zero_le, Nat.not_lt_zero, i10, i01, i12, i21, i20, i02, nl_le1, nl_le2, nl_lt1, nl_lt2, nl_eq1, nl_eq2, nn_le, nn_lt, nn_eq, nl_m1, m1_nl, z_lt, z_le, z_le2, z_lt2, z_eq, nI_l1, nI_l2, nI_l3, nI_l4, nI_add, nI_mul_, tn_n, tn_l, bI_0, bI_1, bI_z, bI_t, bI_f, Bool.false_eq_true, Bool.true_eq_false, eq_self, if_true, if_false, ↓reduceIte, reduceCtorEq, not_true_eq_false, not_false_eq_true, stI_s, stJ_s, ri_p, ri_k, ri_j, ri_1, ri_2, rj_i, rj_1, rj_2, rj_p, rj_k]
    exact q2 FU (by unfold FU; decide)
  · rw [n7 _ _ (by decide), abR_fv (fv' := fun _ => 0) (by omega)]; exact s1 j hj
  · rw [n7 _ _ (by decide), abR_fv (fv' := fun _ => 0) (by omega)]; exact s2 j hj
  · rw [n7 _ _ (by decide), abR_fv (fv' := fun _ => 0) (by omega)]; exact s3
  · rw [n7 _ _ (by decide), abR_fv (fv' := fun _ => 0) (by omega)]; exact s4
  · rw [n7 _ _ (by decide), abR_fv (fv' := fun _ => 0) (by omega)]; exact r0
  · rw [n7 _ _ (by decide), abR_fv (fv' := fun _ => 0) (by omega)]; exact r1
  · rw [n7 _ _ (by decide), abR_fv (fv' := fun _ => 0) (by omega)]; exact r2
  · rw [n7 _ _ (by decide), abR_fv (fv' := fun _ => 0) (by omega)]; exact r3
  · rw [n7 _ _ (by decide), abR_fv (fv' := fun _ => 0) (by omega)]; exact r4
  · rw [n7 _ _ (by decide), abR_fv (fv' := fun _ => 0) (by omega)]; exact r6
  · rw [n7 _ _ (by decide), abR_fv (fv' := fun _ => 0) (by omega)]; exact r7
  · rw [n7 _ _ (by decide), abR_fv (fv' := fun _ => 0) (by omega)]; exact r8
  · rw [n7 _ _ (by decide), abR_fv (fv' := fun _ => 0) (by omega)]; exact hra j hj
  · show h2.2.1 7 j = _
    rw [c2.2.2.2 j]
    by_cases e : 6 * n ≤ j ∧ j < 6 * n + 6
    · rw [if_pos e, hT1 _ (by omega), show 30 + j = 30 + 6 * n + (j - 6 * n) by omega, abR_f _ _ _ _ h7 (by omega), show j - 6 * n + (i + 2) = i + 2 + (j - 6 * n) by omega]
    · rw [if_neg e, abR_fv (fv' := fun _ => 0) (by omega)]
      exact hfa j hj
  · rw [n7 _ _ (by decide), abR_fv (fv' := fun _ => 0) (by omega)]; exact hcl j hj
  · rw [n7 _ _ (by decide), abR_fv (fv' := fun _ => 0) (by omega)]; exact hri j hj
  · rw [n7 _ _ (by decide), abR_fv (fv' := fun _ => 0) (by omega)]; exact hhe j hj
