/-! what can be undone: noted, kept, pushed -/
def RgZ (z x : Nat) (c a u s r : Nat → Int32) : Prop := ∀ i, i < z → Snap (fun j => c (15 * slot x z i + j)) (fun j => u (18 * i + j)) r ∧ a (slot x z i) = s i ∧ ∃ k, k < 4 ∧ s i = nI k
theorem slot_lt (x z i : Nat) : slot x z i < 17 := Nat.mod_lt _ (by decide)
theorem slot_nx {x z i : Nat} (hx : x < 17) (hz : z ≤ 16) (hi : i < z) : slot x z i ≠ x := by
  unfold slot
  omega
def NoteC (x : Nat) (c c' r : Nat → Int32) : Prop := (∀ j, j < 15 * x ∨ 15 * x + 15 ≤ j → c' j = c j) ∧ (∀ j, j < 7 → c' (15 * x + j) = r (10 + j)) ∧ (∀ j, j < 6 → c' (15 * x + 7 + j) = r (17 + j)) ∧ c' (15 * x + 13) = r 9 ∧ c' (15 * x + 14) = r 5
theorem RgZ.note {z x : Nat} {c c' a u s r q : Nat → Int32} (k : RgZ z x c a u s r) (hx : x < 17) (hz : z ≤ 16) (n : NoteC x c c' q) : RgZ z x c' a u s r := fun i hi => by
  obtain ⟨⟨a1, a2, a3, a4, a5⟩, k2⟩ := k i hi
  have ne := slot_nx hx hz hi
  have E : ∀ j, j < 15 → c' (15 * slot x z i + j) = c (15 * slot x z i + j) := fun j hj => n.1 _ (by omega)
  exact ⟨⟨fun j hj => (E j (by omega)).trans (a1 j hj), fun j hj => (E _ (by omega)).trans (a2 j hj), (E 13 (by omega)).trans a3, (E 14 (by omega)).trans a4, a5⟩, k2⟩
theorem rg_push {z x t : Nat} {h hb : AH} {c c' a a' : Nat → Int32} {nx sz : Int32} {r' : Nat → Int32} (hz : z ≤ 16) (hx : x < 17) (ht : t < 4) (k : RgZ z x c a (h.2.1 85) (h.2.1 86) (h.2.1 82)) (bt : BdT (h.2.1 82)) (n : NoteC x c c' (h.2.1 82)) (ha : ∀ j, a' j = if j = x then nI t else a j) (hnx : nx = nI ((x + 1) % 17)) (hsz : sz = nI (min (z + 1) 16)) (p : UPush h hb z t) (e6 : r' 6 = h.2.1 82 6) (e7 : r' 7 = h.2.1 82 7) (e8 : r' 8 = h.2.1 82 8) : RgP c' a' nx sz (hb.2.1 85) (hb.2.1 86) (hb.2.1 80 8) r' := by
  obtain ⟨d, p1, p2, p3, p4, p5, p6, p7, p8, p9⟩ := p
  have k' := k.note hx hz n
  refine ⟨z - d + 1, (x + 1) % 17, by omega, Nat.mod_lt _ (by decide), ?_, hnx, p5, fun i hi => ?_⟩
  · rw [hsz]
    congr 1
    by_cases e : z < 16
    · rw [p4 e]; omega
    · omega
  · by_cases e : i = z - d
    · have es : slot ((x + 1) % 17) (z - d + 1) i = x := by
        unfold slot
        omega
      rw [es, e]
      obtain ⟨b1, b2, b3, b4⟩ := bt
      refine ⟨⟨fun j hj => (n.2.1 j hj).trans ?_, fun j hj => ?_, n.2.2.2.1.trans (p8 4 (by omega)).symm, n.2.2.2.2.trans (p8 0 (by omega)).symm, (p8 1 (by omega)).trans e6.symm, (p8 2 (by omega)).trans e7.symm, (p8 3 (by omega)).trans e8.symm, ?_, ?_, fun j hj => ?_, fun j hj => ?_⟩, ?_, t, ht, p9⟩
      · show h.2.1 82 (10 + j) = hb.2.1 85 (18 * (z - d) + (5 + j))
        rw [p8 (5 + j) (by omega), show 5 + (5 + j) = 10 + j by omega]
      · show c' (15 * x + (7 + j)) = hb.2.1 85 (18 * (z - d) + (12 + j))
        rw [p8 (12 + j) (by omega), show 5 + (12 + j) = 17 + j by omega, show 15 * x + (7 + j) = 15 * x + 7 + j by omega]
        exact n.2.2.1 j hj
      · show rg (hb.2.1 85 (18 * (z - d) + (5 - 5))) 0 999
        rw [p8 _ (by omega)]; exact b1
      · show rg (hb.2.1 85 (18 * (z - d) + (9 - 5))) 0 48
        rw [p8 _ (by omega)]; exact b2
      · show rg (hb.2.1 85 (18 * (z - d) + (10 + j - 5))) (-1) 19
        rw [p8 _ (by omega), show 5 + (10 + j - 5) = 10 + j by omega]; exact b3 j hj
      · show rg (hb.2.1 85 (18 * (z - d) + (17 + j - 5))) 0 3
        rw [p8 _ (by omega), show 5 + (17 + j - 5) = 17 + j by omega]; exact b4 j hj
      · rw [ha, if_pos rfl, p9]
    · have es : slot ((x + 1) % 17) (z - d + 1) i = slot x z (i + d) := by
        unfold slot
        omega
      rw [es]
      obtain ⟨⟨a1, a2, a3, a4, a5, a6, a7, b1, b2, b3, b4⟩, k2, k3⟩ := k' (i + d) (by omega)
      have E : ∀ j, j < 18 → hb.2.1 85 (18 * i + j) = h.2.1 85 (18 * (i + d) + j) := fun j hj => p6 i j (by omega) hj
      refine ⟨⟨fun j hj => (a1 j hj).trans (E _ (by omega)).symm, fun j hj => (a2 j hj).trans (E _ (by omega)).symm, a3.trans (E 4 (by omega)).symm, a4.trans (E 0 (by omega)).symm, (E 1 (by omega)).trans (a5.trans e6.symm), (E 2 (by omega)).trans (a6.trans e7.symm), (E 3 (by omega)).trans (a7.trans e8.symm), ?_, ?_, fun j hj => ?_, fun j hj => ?_⟩, ?_, ?_⟩
      · show rg (hb.2.1 85 (18 * i + (5 - 5))) 0 999
        rw [E _ (by omega)]; exact b1
      · show rg (hb.2.1 85 (18 * i + (9 - 5))) 0 48
        rw [E _ (by omega)]; exact b2
      · show rg (hb.2.1 85 (18 * i + (10 + j - 5))) (-1) 19
        rw [E _ (by omega)]; exact b3 j hj
      · show rg (hb.2.1 85 (18 * i + (17 + j - 5))) 0 3
        rw [E _ (by omega)]; exact b4 j hj
      · rw [ha, if_neg (slot_nx hx hz (by omega)), k2, p7 i (by omega)]
      · rw [p7 i (by omega)]
        exact k3
def P17 (p _j : Nat) : Bool := decide (p = 17)
theorem q_note {h : AH} {x : Nat} (hx : x < 17) (h2 : h.2.1 16 2 = nI x) {r : Nat → Int32} (hS : StX h 3 r) : ∃ h', f_X5_note S_1 16 3 h = some ((), h') ∧ Eqv P17 h h' ∧ NoteC x (h.2.1 17) (h'.2.1 17) r := by
  obtain ⟨s1, s2, s3, s4⟩ := hS
  obtain ⟨h1, r1, c1⟩ := cpI_of (h := h) (a := 4) (b := 17) (sp := 0) (dp := x * 15) (n := 7) (KD_4 h) (KD_17 h) (by decide) (by omega) (by decide)
  obtain ⟨h3, r3, c3⟩ := cpI_of (h := h1) (a := 5) (b := 17) (sp := 0) (dp := x * 15 + 7) (n := 6) (KD_5 h1) (KD_17 h1) (by decide) (by omega) (by decide)
  have f3 : ∀ j, h3.2.1 3 j = h.2.1 3 j := fun j => (c3.n (by decide)).trans (c1.n (by decide))
  have a1 : ((nI x * (15 : Int32)) + (15 : Int32) ≤ nI 255) = True := by
    rw [show (15 : Int32) = nI 15 from rfl, pk_mul, nI_add, nn_le (by omega) (by decide)]
    exact eq_true (by omega)
  refine ⟨stI (stI h3 17 (x * 15 + 7 + 6) (r 9)) 17 (x * 15 + 7 + 6 + 1) (r 5), ?_, ?_, fun j hj => ?_, fun j hj => ?_, fun j hj => ?_, ?_, ?_⟩
  · unfold f_X5_note f_X7_writeTo
    simp (disch := first | rfl | decide | omega | (simp (disch := first | omega | decide) only [nI_l1, nI_l2, nI_l3, nI_l4, nI_add, nI_mul_]; exact ix_n (by omega) (by omega)) | (exact ix_n (by omega) (by omega)) | (exact ix_l (by decide) (by decide)) | assumption) only [h2, a1, show x * 15 + 15 ≤ 255 from by omega, ↓bs_ (show cpI S_1 h 4 (0 : Int32) 17 (nI (x * 15)) (7 : Int32) = some h1 from r1), bs_ (show cpI S_1 h 4 (0 : Int32) 17 (nI (x * 15)) (7 : Int32) = some h1 from r1), bs_ (show cpI S_1 h1 5 (0 : Int32) 17 (nI (x * 15 + 7)) (6 : Int32) = some h3 from r3), f3, s3, s4, ↓zI, ↓zP, ↓zZ, ↓zC, ↓zJ, ↓zQ, ↓zE, ↓zK, ↓zF, ↓zD, ↓zr_0_0, ↓zr_0_2, ↓zr_0_3, ↓zr_0_4, ↓zr_0_5, ↓zr_0_6, ↓zr_0_7, ↓zr_0_8, ↓zr_0_9, ↓zr_0_10, ↓zr_0_11, ↓zr_0_12, ↓zr_0_13, ↓zr_2_0, ↓zr_2_2, ↓zr_2_3, ↓zr_2_5, ↓zr_2_6, ↓zr_2_11, ↓zr_2_13, ↓zr_2_14, ↓zr_3_0, ↓zr_3_1, ↓zr_12_0, ↓zr_12_1, ↓zr_16_0, ↓zr_16_1, ↓zr_19_0, ↓zr_19_1, ↓zr_22_0, ↓zr_22_1, ↓zr_25_0, ↓zr_25_1, ↓zr_28_0, ↓zr_29_0, ↓zr_29_1, ↓zr_32_0, ↓zr_32_1, ↓zr_35_0, ↓zr_35_1, ↓zr_35_4, ↓zr_35_5, ↓zr_38_0, ↓zr_38_1, ↓zr_38_2, ↓zr_38_3, ↓zr_38_4, ↓zr_39_0, ↓zr_39_1, ↓zr_45_0, ↓zr_45_1, ↓zr_46_0, ↓zr_46_1, ↓zr_46_2, ↓zr_50_0, ↓zr_50_1, ↓zr_54_0, ↓zr_54_2, ↓zr_54_3, ↓zr_54_5, ↓zr_54_6, ↓zr_54_11, ↓zr_54_13, ↓zr_54_14, ↓zr_55_0, ↓zr_55_1, ↓zr_64_0, ↓zr_64_1, ↓zr_67_0, ↓zr_67_2, ↓zr_67_3, ↓zr_67_5, ↓zr_67_6, ↓zr_67_11, ↓zr_67_13, ↓zr_67_14, ↓zr_68_0, ↓zr_68_1, ↓zr_77_0, ↓zr_77_1, ↓zr_80_2, ↓zr_80_3, ↓zr_80_4, ↓zr_80_5, ↓zr_80_6, ↓zr_80_7, ↓zr_80_9, ↓zr_80_10, ↓zr_80_12, ↓zr_80_22, ↓zr_80_24, ↓zr_80_25, ↓zr_80_27, ↓zr_80_28, ↓zr_80_31, ↓zr_80_32, ↓zr_80_33, ↓zr_80_35, ↓zr_80_36, ↓zr_80_37, ↓zr_80_41, ↓zr_80_42, ↓zr_80_43, ↓zr_80_44, ↓zr_80_46, ↓zr_80_47, ↓zr_80_48, ↓zr_80_49, ↓zr_80_55, ↓za_1, ↓zs_1, ↓zl_1, ↓za_4, ↓zs_4, ↓zl_4, ↓za_5, ↓zs_5, ↓zl_5, ↓za_6, ↓zs_6, ↓zl_6, ↓za_7, ↓zs_7, ↓zl_7, ↓za_8, ↓zs_8, ↓zl_8, ↓za_9, ↓zs_9, ↓zl_9, ↓za_10, ↓zs_10, ↓zl_10, ↓za_17, ↓zs_17, ↓zl_17, ↓za_18, ↓zs_18, ↓zl_18, ↓za_20, ↓zs_20, ↓zl_20, ↓za_21, ↓zs_21, ↓zl_21, ↓za_23, ↓zs_23, ↓zl_23, ↓za_24, ↓zs_24, ↓zl_24, ↓za_26, ↓zs_26, ↓zl_26, ↓za_27, ↓zs_27, ↓zl_27, ↓za_30, ↓zs_30, ↓zl_30, ↓za_31, ↓zs_31, ↓zl_31, ↓za_33, ↓zs_33, ↓zl_33, ↓za_34, ↓zs_34, ↓zl_34, ↓za_36, ↓zs_36, ↓zl_36, ↓za_37, ↓zs_37, ↓zl_37, ↓za_40, ↓zs_40, ↓zl_40, ↓za_41, ↓zs_41, ↓zl_41, ↓za_42, ↓zs_42, ↓zl_42, ↓za_43, ↓zs_43, ↓zl_43, ↓za_44, ↓zs_44, ↓zl_44, ↓za_47, ↓zs_47, ↓zl_47, ↓za_48, ↓zs_48, ↓zl_48, ↓za_49, ↓zs_49, ↓zl_49, ↓za_51, ↓zs_51, ↓zl_51, ↓za_52, ↓zs_52, ↓zl_52, ↓za_53, ↓zs_53, ↓zl_53, ↓za_56, ↓zs_56, ↓zl_56, ↓za_57, ↓zs_57, ↓zl_57, ↓za_58, ↓zs_58, ↓zl_58, ↓za_59, ↓zs_59, ↓zl_59, ↓za_60, ↓zs_60, ↓zl_60, ↓za_61, ↓zs_61, ↓zl_61, ↓za_62, ↓zs_62, ↓zl_62, ↓za_69, ↓zs_69, ↓zl_69, ↓za_70, ↓zs_70, ↓zl_70, ↓za_71, ↓zs_71, ↓zl_71, ↓za_72, ↓zs_72, ↓zl_72, ↓za_73, ↓zs_73, ↓zl_73, ↓za_74, ↓zs_74, ↓zl_74, ↓za_75, ↓zs_75, ↓zl_75, ↓za_81, ↓zs_81, ↓zl_81, ↓za_82, ↓zs_82, ↓zl_82, ↓za_83, ↓zs_83, ↓zl_83, ↓za_84, ↓zs_84, ↓zl_84, ↓za_85, ↓zs_85, ↓zl_85, ↓za_86, ↓zs_86, ↓zl_86, ↓za_87, ↓zs_87, ↓zl_87, ↓za_88, ↓zs_88, ↓zl_88, ↓za_89, ↓zs_89, ↓zl_89, ↓za_90, ↓zs_90, ↓zl_90, ↓za_91, ↓zs_91, ↓zl_91, ↓za_92, ↓zs_92, ↓zl_92, ↓za_93, ↓zs_93, ↓zl_93, ↓za_94, ↓zs_94, ↓zl_94, ↓za_95, ↓zs_95, ↓zl_95, ↓za_96, ↓zs_96, ↓zl_96, ↓za_97, ↓zs_97, ↓zl_97, ↓za_98, ↓zs_98, ↓zl_98, ↓za_99, ↓zs_99, ↓zl_99, ↓za_100, ↓zs_100, ↓zl_100, ↓za_101, ↓zs_101, ↓zl_101, ↓za_102, ↓zs_102, ↓zl_102, ↓za_103, ↓zs_103, ↓zl_103, ↓za_104, ↓zs_104, ↓zl_104, ↓za_105, ↓zs_105, ↓zl_105, ↓za_106, ↓zs_106, ↓zl_106, ↓za_107, ↓zs_107, ↓zl_107, ↓za_108, ↓zs_108, ↓zl_108, ↓za_109, ↓zs_109, ↓zl_109, hand_id, n01, n05, ob, Nat.zero_le, Nat.not_lt_zero, i10, i01, i12, i21, i20, i02, nl_le1, nl_le2, nl_lt1, nl_lt2, nl_eq1, nl_eq2, nn_le, nn_lt, nn_eq, nl_m1, m1_nl, z_lt, z_le, z_le2, z_lt2, z_eq, nI_l1, nI_l2, nI_l3, nI_l4, nI_add, nI_mul_, tn_n, tn_l, bI_0, bI_1, bI_z, bI_t, bI_f, Bool.false_eq_true, Bool.true_eq_false, eq_self, if_true, if_false, ↓reduceIte, reduceCtorEq, not_true_eq_false, not_false_eq_true, stI_s, stJ_s, ri_p, ri_k, ri_j, ri_1, ri_2, rj_i, rj_1, rj_2, rj_p, rj_k]
  · have p : ∀ q j, (fun q _ => decide (q = 17)) q j = true → P17 q j = true := fun q j e => e
    exact (((c1.eq fun j _ _ => rfl).trans (c3.eq fun j _ _ => rfl)).si rfl).si rfl
  · rw [ri_k (by omega), ri_k (by omega), c3.o (by omega), c1.o (by omega)]
  · rw [ri_k (by omega), ri_k (by omega), c3.o (by omega), Nat.mul_comm 15 x, c1.i hj, Nat.zero_add, s1 j hj]
  · rw [ri_k (by omega), ri_k (by omega), Nat.mul_comm 15 x, c3.i hj, Nat.zero_add, c1.n (by decide), s2 j hj]
  · rw [ri_k (by omega), show 15 * x + 13 = x * 15 + 7 + 6 by omega, stI_s]
  · rw [show 15 * x + 14 = x * 15 + 7 + 6 + 1 by omega, stI_s]
theorem q_keep {h : AH} {x z : Nat} (hx : x < 17) (hz : z ≤ 16) (h2 : h.2.1 16 2 = nI x) (h3 : h.2.1 16 3 = nI z) (v : Int32) : ∃ h', f_X5_keep S_1 16 v h = some ((), h') ∧ Eqv (fun p j => decide (p = 18 ∨ p = 16 ∧ (j = 2 ∨ j = 3))) h h' ∧ (∀ j, h'.2.1 18 j = if j = x then v else h.2.1 18 j) ∧ h'.2.1 16 2 = nI ((x + 1) % 17) ∧ h'.2.1 16 3 = nI (min (z + 1) 16) := by
  have e1 : ∀ x, x < 17 → rmI (nI x + 1) 17 = nI ((x + 1) % 17) := by decide
  have e2 : ∀ z, z ≤ 16 → mnI (nI z + 1) 16 = nI (min (z + 1) 16) := by decide
  have e1' : rmI (nI (x + 1)) 17 = nI ((x + 1) % 17) := by rw [← e1 x hx]; exact congrArg (rmI · 17) (nI_add x 1).symm
  have e2' : mnI (nI (z + 1)) 16 = nI (min (z + 1) 16) := by rw [← e2 z hz]; exact congrArg (mnI · 16) (nI_add z 1).symm
  refine ⟨stI (stI (stI h 18 x v) 16 2 (nI ((x + 1) % 17))) 16 3 (nI (min (z + 1) 16)), ?_, (((Eqv.refl h).si rfl).si rfl).si rfl, fun j => ?_, ?_, stI_s _ _ _ _⟩
  · unfold f_X5_keep f_X5_keep_j26
    simp (disch := first | rfl | decide | omega | (simp (disch := first | omega | decide) only [nI_l1, nI_l2, nI_l3, nI_l4, nI_add, nI_mul_]; exact ix_n (by omega) (by omega)) | (exact ix_n (by omega) (by omega)) | (exact ix_l (by decide) (by decide)) | assumption) only [h2, h3, show ¬ 17 ≤ x from by omega, e1', e2', ↓zI, ↓zP, ↓zZ, ↓zC, ↓zJ, ↓zQ, ↓zE, ↓zK, ↓zF, ↓zD, ↓zr_0_0, ↓zr_0_2, ↓zr_0_3, ↓zr_0_4, ↓zr_0_5, ↓zr_0_6, ↓zr_0_7, ↓zr_0_8, ↓zr_0_9, ↓zr_0_10, ↓zr_0_11, ↓zr_0_12, ↓zr_0_13, ↓zr_2_0, ↓zr_2_2, ↓zr_2_3, ↓zr_2_5, ↓zr_2_6, ↓zr_2_11, ↓zr_2_13, ↓zr_2_14, ↓zr_3_0, ↓zr_3_1, ↓zr_12_0, ↓zr_12_1, ↓zr_16_0, ↓zr_16_1, ↓zr_19_0, ↓zr_19_1, ↓zr_22_0, ↓zr_22_1, ↓zr_25_0, ↓zr_25_1, ↓zr_28_0, ↓zr_29_0, ↓zr_29_1, ↓zr_32_0, ↓zr_32_1, ↓zr_35_0, ↓zr_35_1, ↓zr_35_4, ↓zr_35_5, ↓zr_38_0, ↓zr_38_1, ↓zr_38_2, ↓zr_38_3, ↓zr_38_4, ↓zr_39_0, ↓zr_39_1, ↓zr_45_0, ↓zr_45_1, ↓zr_46_0, ↓zr_46_1, ↓zr_46_2, ↓zr_50_0, ↓zr_50_1, ↓zr_54_0, ↓zr_54_2, ↓zr_54_3, ↓zr_54_5, ↓zr_54_6, ↓zr_54_11, ↓zr_54_13, ↓zr_54_14, ↓zr_55_0, ↓zr_55_1, ↓zr_64_0, ↓zr_64_1, ↓zr_67_0, ↓zr_67_2, ↓zr_67_3, ↓zr_67_5, ↓zr_67_6, ↓zr_67_11, ↓zr_67_13, ↓zr_67_14, ↓zr_68_0, ↓zr_68_1, ↓zr_77_0, ↓zr_77_1, ↓zr_80_2, ↓zr_80_3, ↓zr_80_4, ↓zr_80_5, ↓zr_80_6, ↓zr_80_7, ↓zr_80_9, ↓zr_80_10, ↓zr_80_12, ↓zr_80_22, ↓zr_80_24, ↓zr_80_25, ↓zr_80_27, ↓zr_80_28, ↓zr_80_31, ↓zr_80_32, ↓zr_80_33, ↓zr_80_35, ↓zr_80_36, ↓zr_80_37, ↓zr_80_41, ↓zr_80_42, ↓zr_80_43, ↓zr_80_44, ↓zr_80_46, ↓zr_80_47, ↓zr_80_48, ↓zr_80_49, ↓zr_80_55, ↓za_1, ↓zs_1, ↓zl_1, ↓za_4, ↓zs_4, ↓zl_4, ↓za_5, ↓zs_5, ↓zl_5, ↓za_6, ↓zs_6, ↓zl_6, ↓za_7, ↓zs_7, ↓zl_7, ↓za_8, ↓zs_8, ↓zl_8, ↓za_9, ↓zs_9, ↓zl_9, ↓za_10, ↓zs_10, ↓zl_10, ↓za_17, ↓zs_17, ↓zl_17, ↓za_18, ↓zs_18, ↓zl_18, ↓za_20, ↓zs_20, ↓zl_20, ↓za_21, ↓zs_21, ↓zl_21, ↓za_23, ↓zs_23, ↓zl_23, ↓za_24, ↓zs_24, ↓zl_24, ↓za_26, ↓zs_26, ↓zl_26, ↓za_27, ↓zs_27, ↓zl_27, ↓za_30, ↓zs_30, ↓zl_30, ↓za_31, ↓zs_31, ↓zl_31, ↓za_33, ↓zs_33, ↓zl_33, ↓za_34, ↓zs_34, ↓zl_34, ↓za_36, ↓zs_36, ↓zl_36, ↓za_37, ↓zs_37, ↓zl_37, ↓za_40, ↓zs_40, ↓zl_40, ↓za_41, ↓zs_41, ↓zl_41, ↓za_42, ↓zs_42, ↓zl_42, ↓za_43, ↓zs_43, ↓zl_43, ↓za_44, ↓zs_44, ↓zl_44, ↓za_47, ↓zs_47, ↓zl_47, ↓za_48, ↓zs_48, ↓zl_48, ↓za_49, ↓zs_49, ↓zl_49, ↓za_51, ↓zs_51, ↓zl_51, ↓za_52, ↓zs_52, ↓zl_52, ↓za_53, ↓zs_53, ↓zl_53, ↓za_56, ↓zs_56, ↓zl_56, ↓za_57, ↓zs_57, ↓zl_57, ↓za_58, ↓zs_58, ↓zl_58, ↓za_59, ↓zs_59, ↓zl_59, ↓za_60, ↓zs_60, ↓zl_60, ↓za_61, ↓zs_61, ↓zl_61, ↓za_62, ↓zs_62, ↓zl_62, ↓za_69, ↓zs_69, ↓zl_69, ↓za_70, ↓zs_70, ↓zl_70, ↓za_71, ↓zs_71, ↓zl_71, ↓za_72, ↓zs_72, ↓zl_72, ↓za_73, ↓zs_73, ↓zl_73, ↓za_74, ↓zs_74, ↓zl_74, ↓za_75, ↓zs_75, ↓zl_75, ↓za_81, ↓zs_81, ↓zl_81, ↓za_82, ↓zs_82, ↓zl_82, ↓za_83, ↓zs_83, ↓zl_83, ↓za_84, ↓zs_84, ↓zl_84, ↓za_85, ↓zs_85, ↓zl_85, ↓za_86, ↓zs_86, ↓zl_86, ↓za_87, ↓zs_87, ↓zl_87, ↓za_88, ↓zs_88, ↓zl_88, ↓za_89, ↓zs_89, ↓zl_89, ↓za_90, ↓zs_90, ↓zl_90, ↓za_91, ↓zs_91, ↓zl_91, ↓za_92, ↓zs_92, ↓zl_92, ↓za_93, ↓zs_93, ↓zl_93, ↓za_94, ↓zs_94, ↓zl_94, ↓za_95, ↓zs_95, ↓zl_95, ↓za_96, ↓zs_96, ↓zl_96, ↓za_97, ↓zs_97, ↓zl_97, ↓za_98, ↓zs_98, ↓zl_98, ↓za_99, ↓zs_99, ↓zl_99, ↓za_100, ↓zs_100, ↓zl_100, ↓za_101, ↓zs_101, ↓zl_101, ↓za_102, ↓zs_102, ↓zl_102, ↓za_103, ↓zs_103, ↓zl_103, ↓za_104, ↓zs_104, ↓zl_104, ↓za_105, ↓zs_105, ↓zl_105, ↓za_106, ↓zs_106, ↓zl_106, ↓za_107, ↓zs_107, ↓zl_107, ↓za_108, ↓zs_108, ↓zl_108, ↓za_109, ↓zs_109, ↓zl_109, hand_id, n01, n05, ob, Nat.zero_le, Nat.not_lt_zero, i10, i01, i12, i21, i20, i02, nl_le1, nl_le2, nl_lt1, nl_lt2, nl_eq1, nl_eq2, nn_le, nn_lt, nn_eq, nl_m1, m1_nl, z_lt, z_le, z_le2, z_lt2, z_eq, nI_l1, nI_l2, nI_l3, nI_l4, nI_add, nI_mul_, tn_n, tn_l, bI_0, bI_1, bI_z, bI_t, bI_f, Bool.false_eq_true, Bool.true_eq_false, eq_self, if_true, if_false, ↓reduceIte, reduceCtorEq, not_true_eq_false, not_false_eq_true, stI_s, stJ_s, ri_p, ri_k, ri_j, ri_1, ri_2, rj_i, rj_1, rj_2, rj_p, rj_k]
  · rw [ri_p (by decide), ri_p (by decide)]
    by_cases e : j = x
    · rw [e, if_pos rfl, stI_s]
    · rw [if_neg e, ri_k e]
  · rw [ri_k (by decide), stI_s]
/-! ranges -/
theorem bndI_rg (v : Int64) {lo hi : Int32} (h : lo ≤ hi) : rg (bndI v lo hi) lo hi := by
  unfold bndI
  have a := Int32.le_iff_toInt_le.mp h
  by_cases h1 : v < Int32.toInt64 lo
  · rw [if_pos h1]
    exact ⟨Int32.le_refl _, h⟩
  · rw [if_neg h1]
    by_cases h2 : Int32.toInt64 hi < v
    · rw [if_pos h2]
      exact ⟨h, Int32.le_refl _⟩
    · rw [if_neg h2]
      have b1 := Int64.le_iff_toInt_le.mp (Int64.not_lt.mp h1)
      have b2 := Int64.le_iff_toInt_le.mp (Int64.not_lt.mp h2)
      rw [Int32.toInt_toInt64] at b1 b2
      have c1 := Int32.le_toInt lo
      have c2 := Int32.toInt_lt hi
      have e : (Int64.toInt32 v).toInt = v.toInt := by
        rw [Int64.toInt_toInt32]
        exact Int.bmod_eq_of_le (by omega) (by omega)
      exact ⟨Int32.le_iff_toInt_le.mpr (by rw [e]; exact b1), Int32.le_iff_toInt_le.mpr (by rw [e]; exact b2)⟩
theorem rg_nI {x : Int32} {n : Nat} (hn : n < 2 ^ 31) (h : rg x 0 (nI n)) : ∃ j, j ≤ n ∧ x = nI j := by
  obtain ⟨j, hj, rfl⟩ := nI_of (Int32.not_lt.mpr h.1)
  exact ⟨j, (nI_leI hj hn).mp h.2, rfl⟩
theorem rg_of_nI {j n : Nat} (hn : n < 2 ^ 31) (h : j ≤ n) : rg (nI j) 0 (nI n) := ⟨nI_pos' (by omega), (nI_leI (by omega) hn).mpr h⟩
theorem howM_n (n : Nat) (f : Nat → Bool) : ∃ t, t ≤ n ∧ howM n f = nI t := by
  have e : ∀ (m k s : Nat), ∃ t, t ≤ s + m ∧ fo (fun s k => s + (if f k then 1 else 0)) k m (nI s) = nI t := by
    intro m
    induction m with
    | zero => exact fun k s => ⟨s, Nat.le_refl _, rfl⟩
    | succ m ih =>
      intro k s
      show ∃ t, t ≤ s + (m + 1) ∧ fo _ (k + 1) m (nI s + (if f k then 1 else 0)) = nI t
      cases f k with
      | false =>
        obtain ⟨t, h1, h2⟩ := ih (k + 1) s
        exact ⟨t, by omega, by rw [show (nI s + (if false = true then 1 else 0)) = nI s by simp]; exact h2⟩
      | true =>
        obtain ⟨t, h1, h2⟩ := ih (k + 1) (s + 1)
        exact ⟨t, by omega, by rw [show (nI s + (if true = true then 1 else 0)) = nI (s + 1) from by rw [if_pos rfl]; exact nI_add s 1]; exact h2⟩
  obtain ⟨t, h1, h2⟩ := e n 0 0
  exact ⟨t, by omega, h2⟩
theorem on7_pos {n : Nat} (h7 : n ≤ 7) (f : Nat → Bool) : 0 ≤ on7 (bits n f) := by
  obtain ⟨t, ht, e⟩ := bits_lt h7 f
  rw [e]
  have : ∀ t, t < 128 → 0 ≤ on7 (nI t) := by decide +kernel
  exact this t ht
