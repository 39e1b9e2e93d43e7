/-! a law asks its own part of the row alone -/
theorem SumM.cong {ord : Bool} {c a c' a' : Nat → Int32} : ∀ {n i j : Nat} {d : DD} {L : Nat}, (∀ k, k < j → c' k = c k ∧ a' k = a k) → SumM ord c a n i j d L → SumM ord c' a' n i j d L
  | 0, _, _, _, _, _, h => h
  | n + 1, i, j, d, L, e, h => by
    rcases h with ⟨rfl, h1, h2⟩ | ⟨m, j', d1, d2, L1, L2, op, h1, h2, rfl, h4, h5, h6, h7, h8⟩
    · refine Or.inl ⟨rfl, h1, ?_⟩
      rw [(e i (by omega)).1, (e i (by omega)).2]
      exact h2
    · have b := h2.lt
      exact Or.inr ⟨m, j', d1, d2, L1, L2, op, h1.cong fun k hk => e k (by omega), h2.cong fun k hk => e k (by omega), rfl, h4, h5, by rw [(e j' (by omega)).1]; exact h6, h7, h8⟩
theorem TstM.cong {ord : Bool} {c a c' a' : Nat → Int32} : ∀ {n i j : Nat} {d : DD} {L : Nat}, (∀ k, k < j → c' k = c k ∧ a' k = a k) → TstM ord c a n i j d L → TstM ord c' a' n i j d L
  | 0, _, _, _, _, _, h => h
  | n + 1, i, j, d, L, e, h => by
    rcases h with ⟨m, j', d1, d2, L1, L2, op, h1, h2, rfl, h4, h5, h6, h7, h8⟩ | ⟨j', d1, h1, rfl, h3, h4⟩ | ⟨m, d1, d2, L1, L2, h1, h2, h3, h4, h5, h6⟩ | ⟨m, d1, d2, L1, L2, h1, h2, h3, h4, h5, h6⟩
    · have b := h2.lt
      exact Or.inl ⟨m, j', d1, d2, L1, L2, op, h1.cong fun k hk => e k (by omega), h2.cong fun k hk => e k (by omega), rfl, h4, h5, by rw [(e j' (by omega)).1]; exact h6, h7, h8⟩
    · exact Or.inr (Or.inl ⟨j', d1, h1.cong fun k hk => e k (by omega), rfl, by rw [(e j' (by omega)).1]; exact h3, h4⟩)
    · have b := h2.lt
      have em := e m (by omega)
      exact Or.inr (Or.inr (Or.inl ⟨m, d1, d2, L1, L2, h1.cong fun k hk => e k (by omega), h2.cong e, by rw [em.1]; exact h3, by rw [em.2]; exact h4, h5, h6⟩))
    · have b := h2.lt
      have em := e m (by omega)
      exact Or.inr (Or.inr (Or.inr ⟨m, d1, d2, L1, L2, h1.cong fun k hk => e k (by omega), h2.cong e, by rw [em.1]; exact h3, by rw [em.2]; exact h4, h5, h6⟩))
theorem CdM.cong {ord : Bool} {c a c' a' : Nat → Int32} {i j : Nat} {d : DD} {L : Nat} (e : ∀ k, k < j → c' k = c k ∧ a' k = a k) (h : CdM ord c a i j d L) : CdM ord c' a' i j d L := by
  rcases h with ⟨N, h⟩ | ⟨N, h⟩
  · exact Or.inl ⟨N, h.cong e⟩
  · exact Or.inr ⟨N, h.cong e⟩
theorem LawR.cong {r r' : Nat → Int32} {L L' n : Nat} {f : Nat → Cl} (k : LawR r L n f) (hL : L' ≤ 4590) (e : ∀ j, j < 900 → r' (L' + j) = r (L + j)) : LawR r' L' n f := by
  obtain ⟨k1, k2, k3, k4⟩ := k
  refine ⟨k1, hL, (e 1 (by omega)).trans k3, fun c hc => ?_⟩
  obtain ⟨a1, a2, i, m, j, b1, b2, b3, b4, b5, b6, b7, b8⟩ := k4 c hc
  have E : ∀ x, x < 8 → r' (L' + 2 + 8 * c + x) = r (L + 2 + 8 * c + x) := fun x hx => by
    have := e (2 + 8 * c + x) (by omega)
    rw [show L' + 2 + 8 * c + x = L' + (2 + 8 * c + x) by omega, this, show L + 2 + 8 * c + x = L + (2 + 8 * c + x) by omega]
  have C : ∀ t, t < 400 → r' (L' + 98 + 2 * t) = r (L + 98 + 2 * t) ∧ r' (L' + 98 + 2 * t + 1) = r (L + 98 + 2 * t + 1) := fun t ht => by
    have e1 := e (98 + 2 * t) (by omega)
    have e2 := e (98 + 2 * t + 1) (by omega)
    exact ⟨by rw [Nat.add_assoc, e1, Nat.add_assoc], by rw [show L' + 98 + 2 * t + 1 = L' + (98 + 2 * t + 1) by omega, e2, show L + 98 + 2 * t + 1 = L + (98 + 2 * t + 1) by omega]⟩
  refine ⟨a1, (E 0 (by omega)).trans a2, i, m, j, (E 3 (by omega)).trans b1, (E 4 (by omega)).trans b2, (E 5 (by omega)).trans b3, (E 6 (by omega)).trans b4, b5, b6, ?_, ?_⟩
  · cases es : (f c).2.1 with
    | none =>
      rw [es] at b7
      exact b7
    | some s =>
      rw [es] at b7
      obtain ⟨x1, D, hD, x2⟩ := b7
      exact ⟨x1, D, hD, x2.cong fun t ht => C t (by omega)⟩
  · cases es : (f c).2.2 with
    | none =>
      rw [es] at b8
      exact b8
    | some s =>
      rw [es] at b8
      obtain ⟨D, N, hD, x2⟩ := b8
      exact ⟨D, N, hD, x2.cong fun t ht => C t (by omega)⟩
theorem evB_cong {r r' : Nat → Int32} (e : ∀ j, j ≠ 4 → r' j = r j) (b m : Nat) : evB r' b m = evB r b m := by
  unfold evB evL
  funext k
  rw [e (10 + b) (by omega), e (30 + 6 * b + m) (by omega), e (72 + m) (by omega), e (78 + m) (by omega), e 9 (by omega), e 5 (by omega), e 7 (by omega)]
theorem siS_cong {r r' : Nat → Int32} (e : ∀ j, j ≠ 4 → r' j = r j) (n : Nat) (f : Nat → Cl) (b m : Nat) : siS r' n f b m = siS r n f b m := by
  unfold siS awS
  rw [evB_cong e, e (10 + b) (by omega)]
theorem ayS_cong {r r' : Nat → Int32} (e : ∀ j, j ≠ 4 → r' j = r j) (n : Nat) (f : Nat → Cl) (b m : Nat) : ayS r' n f b m = ayS r n f b m := by
  unfold ayS swS
  rw [evB_cong e, siS_cong e, e (30 + 6 * b + m) (by omega)]
theorem setA_cong {r r' : Nat → Int32} (e : ∀ j, j ≠ 4 → r' j = r j) (n : Nat) (f : Nat → Cl) (nb m : Nat) : setA r' n f nb m = setA r n f nb m := by
  unfold setA
  simp only [ayS_cong e]
theorem lawX_12 {h : AH} (k : h.2.1 12 3 = 0) (f : Nat → Cl) : LawX h 12 0 f ∧ FarX h 12 ∧ LwP 0 f := by
  refine ⟨⟨by omega, rfl, k, 13, 14, 0, rfl, rfl, rfl, by omega, rfl, fun c hc => by omega⟩, ⟨Or.inl rfl, fun k q hq => ?_⟩, fun c hc => by omega⟩
  unfold LawP
  match k with
  | 0 => injection hq with hq; omega
  | 1 => injection hq with hq; omega
  | 2 => cases hq
  | 3 => cases hq
  | k + 4 => cases hq
/-- a law by its number -/
theorem Rel0.lawOf {h : AH} {nb nm nh nl : Nat} (k : Rel0 h nb nm nh nl) {x : Int32} (hx : x = -1 ∨ ∃ i, i < nl ∧ x = nI i) : ∃ p n f, f_X6_lawOf S_1 2 x h = some (p, h) ∧ LawX h p n f ∧ FarX h p ∧ LwP n f ∧ ((x = -1 ∧ n = 0) ∨ ∃ i, i < 6 ∧ x = nI i ∧ LawR (h.2.1 82) (90 + 900 * i) n f) := by
  obtain ⟨k1, k2, ⟨k3, k4⟩, ⟨k5, k6⟩, k7⟩ := k
  have hl : h.2.1 2 12 = nI nl := k4.1.2.2.2.1.trans k1.2.2.2.1.1
  have h6 : nl ≤ 6 := k1.2.2.2.1.2
  rcases hx with rfl | ⟨i, hi, rfl⟩
  · obtain ⟨a, b, c⟩ := lawX_12 k6 (fun _ => (0, none, none))
    exact ⟨12, 0, _, q_lawOf0 hl h6 (fun z => absurd z.1 (by decide)), a, b, c, Or.inl ⟨rfl, rfl⟩⟩
  · obtain ⟨p, n, f, c1, c2, c3, c4⟩ := k5.1 i hi
    exact ⟨p, n, f, q_lawOf1 hl hi h6 c1, c2, c3, LawM.P (h := h) c4, Or.inr ⟨i, by omega, rfl, c4⟩⟩
theorem bo_compare {h : AH} (k : Rel h) (x y : Int32) : Bo h (f_X10_compare S_1 0 x y) (f_X11_compare S_1 80 x y) := by
  obtain ⟨st, nb, nm, nh, nl, k0⟩ := id k
  obtain ⟨p, n, f, ct, cm⟩ := k0.law
  have h7 := cm.2.2.2.1
  have h6 := cm.2.2.2.2.2
  have hl : h.2.1 82 3 = nI nl := k0.1.2.2.2.1.1
  have hl6 : nl ≤ 6 := k0.1.2.2.2.1.2
  have hlx : h.2.1 2 12 = nI nl := ct.2.2.1.1.2.2.2.1.trans hl
  by_cases hx : x = -1 ∨ 0 ≤ x ∧ x < nI nl
  · have hx' : x = -1 ∨ ∃ i, i < nl ∧ x = nI i := hx.imp id fun z => inb_of (by omega) (decide_eq_true z)
    obtain ⟨p', n', f', lo, L1, L2, L3, L4⟩ := k0.lawOf hx'
    refine both_q2 (v := if inb y nm then on7 (setA (h.2.1 82) n' f' nb y.toNatClampNeg) else -1) (fun _ => rfl) k ?_ (fun h2 e2 => ?_)
    · have e : f_X10_compare S_1 0 x y h = f_X10_compare_j16 S_1 0 x y h := by
        unfold f_X10_compare
        rcases hx with rfl | hx
        · rw [if_pos rfl]
        · rw [if_neg (fun z => by rw [z] at hx; exact absurd hx.1 (by decide)), bs_ (yr_0_2 h), bs_ (ck_2 h), bs_ (q_hasLaw h x hlx hl6)]
          dsimp only
          rw [if_neg (by rw [bI_0, decide_eq_true hx]; decide)]
      rw [e]
      unfold f_X10_compare_j16
      cases ey : inb y nm with
      | false =>
        simp (disch := first | rfl | decide | omega | (simp (disch := first | omega | decide) only [nI_l1, nI_l2, nI_l3, nI_l4, nI_add, nI_mul_]; exact ix_n (by omega) (by omega)) | (exact ix_n (by omega) (by omega)) | (exact ix_l (by decide) (by decide)) | assumption) only [↓bs_ (q_hasM ct y), ey, ↓zI, ↓zP, ↓zZ, ↓zC, ↓zJ, ↓zQ, ↓zE, ↓zK, ↓zF, ↓zD, ↓zr_0_0, ↓zr_0_2, ↓zr_0_3, ↓zr_0_4, ↓zr_0_5, ↓zr_0_6, ↓zr_0_7, ↓zr_0_8, ↓zr_0_9, ↓zr_0_10, ↓zr_0_11, ↓zr_0_12, ↓zr_0_13, ↓zr_2_0, ↓zr_2_2, ↓zr_2_3, ↓zr_2_5, ↓zr_2_6, ↓zr_2_11, ↓zr_2_13, ↓zr_2_14, ↓zr_3_0, ↓zr_3_1, ↓zr_12_0, ↓zr_12_1, ↓zr_16_0, ↓zr_16_1, ↓zr_19_0, ↓zr_19_1, ↓zr_22_0, ↓zr_22_1, ↓zr_25_0, ↓zr_25_1, ↓zr_28_0, ↓zr_29_0, ↓zr_29_1, ↓zr_32_0, ↓zr_32_1, ↓zr_35_0, ↓zr_35_1, ↓zr_35_4, ↓zr_35_5, ↓zr_38_0, ↓zr_38_1, ↓zr_38_2, ↓zr_38_3, ↓zr_38_4, ↓zr_39_0, ↓zr_39_1, ↓zr_45_0, ↓zr_45_1, ↓zr_46_0, ↓zr_46_1, ↓zr_46_2, ↓zr_50_0, ↓zr_50_1, ↓zr_54_0, ↓zr_54_2, ↓zr_54_3, ↓zr_54_5, ↓zr_54_6, ↓zr_54_11, ↓zr_54_13, ↓zr_54_14, ↓zr_55_0, ↓zr_55_1, ↓zr_64_0, ↓zr_64_1, ↓zr_67_0, ↓zr_67_2, ↓zr_67_3, ↓zr_67_5, ↓zr_67_6, ↓zr_67_11, ↓zr_67_13, ↓zr_67_14, ↓zr_68_0, ↓zr_68_1, ↓zr_77_0, ↓zr_77_1, ↓zr_80_2, ↓zr_80_3, ↓zr_80_4, ↓zr_80_5, ↓zr_80_6, ↓zr_80_7, ↓zr_80_9, ↓zr_80_10, ↓zr_80_12, ↓zr_80_22, ↓zr_80_24, ↓zr_80_25, ↓zr_80_27, ↓zr_80_28, ↓zr_80_31, ↓zr_80_32, ↓zr_80_33, ↓zr_80_35, ↓zr_80_36, ↓zr_80_37, ↓zr_80_41, ↓zr_80_42, ↓zr_80_43, ↓zr_80_44, ↓zr_80_46, ↓zr_80_47, ↓zr_80_48, ↓zr_80_49, ↓zr_80_55, ↓za_1, ↓zs_1, ↓zl_1, ↓za_4, ↓zs_4, ↓zl_4, ↓za_5, ↓zs_5, ↓zl_5, ↓za_6, ↓zs_6, ↓zl_6, ↓za_7, ↓zs_7, ↓zl_7, ↓za_8, ↓zs_8, ↓zl_8, ↓za_9, ↓zs_9, ↓zl_9, ↓za_10, ↓zs_10, ↓zl_10, ↓za_17, ↓zs_17, ↓zl_17, ↓za_18, ↓zs_18, ↓zl_18, ↓za_20, ↓zs_20, ↓zl_20, ↓za_21, ↓zs_21, ↓zl_21, ↓za_23, ↓zs_23, ↓zl_23, ↓za_24, ↓zs_24, ↓zl_24, ↓za_26, ↓zs_26, ↓zl_26, ↓za_27, ↓zs_27, ↓zl_27, ↓za_30, ↓zs_30, ↓zl_30, ↓za_31, ↓zs_31, ↓zl_31, ↓za_33, ↓zs_33, ↓zl_33, ↓za_34, ↓zs_34, ↓zl_34, ↓za_36, ↓zs_36, ↓zl_36, ↓za_37, ↓zs_37, ↓zl_37, ↓za_40, ↓zs_40, ↓zl_40, ↓za_41, ↓zs_41, ↓zl_41, ↓za_42, ↓zs_42, ↓zl_42, ↓za_43, ↓zs_43, ↓zl_43, ↓za_44, ↓zs_44, ↓zl_44, ↓za_47, ↓zs_47, ↓zl_47, ↓za_48, ↓zs_48, ↓zl_48, ↓za_49, ↓zs_49, ↓zl_49, ↓za_51, ↓zs_51, ↓zl_51, ↓za_52, ↓zs_52, ↓zl_52, ↓za_53, ↓zs_53, ↓zl_53, ↓za_56, ↓zs_56, ↓zl_56, ↓za_57, ↓zs_57, ↓zl_57, ↓za_58, ↓zs_58, ↓zl_58, ↓za_59, ↓zs_59, ↓zl_59, ↓za_60, ↓zs_60, ↓zl_60, ↓za_61, ↓zs_61, ↓zl_61, ↓za_62, ↓zs_62, ↓zl_62, ↓za_69, ↓zs_69, ↓zl_69, ↓za_70, ↓zs_70, ↓zl_70, ↓za_71, ↓zs_71, ↓zl_71, ↓za_72, ↓zs_72, ↓zl_72, ↓za_73, ↓zs_73, ↓zl_73, ↓za_74, ↓zs_74, ↓zl_74, ↓za_75, ↓zs_75, ↓zl_75, ↓za_81, ↓zs_81, ↓zl_81, ↓za_82, ↓zs_82, ↓zl_82, ↓za_83, ↓zs_83, ↓zl_83, ↓za_84, ↓zs_84, ↓zl_84, ↓za_85, ↓zs_85, ↓zl_85, ↓za_86, ↓zs_86, ↓zl_86, ↓za_87, ↓zs_87, ↓zl_87, ↓za_88, ↓zs_88, ↓zl_88, ↓za_89, ↓zs_89, ↓zl_89, ↓za_90, ↓zs_90, ↓zl_90, ↓za_91, ↓zs_91, ↓zl_91, ↓za_92, ↓zs_92, ↓zl_92, ↓za_93, ↓zs_93, ↓zl_93, ↓za_94, ↓zs_94, ↓zl_94, ↓za_95, ↓zs_95, ↓zl_95, ↓za_96, ↓zs_96, ↓zl_96, ↓za_97, ↓zs_97, ↓zl_97, ↓za_98, ↓zs_98, ↓zl_98, ↓za_99, ↓zs_99, ↓zl_99, ↓za_100, ↓zs_100, ↓zl_100, ↓za_101, ↓zs_101, ↓zl_101, ↓za_102, ↓zs_102, ↓zl_102, ↓za_103, ↓zs_103, ↓zl_103, ↓za_104, ↓zs_104, ↓zl_104, ↓za_105, ↓zs_105, ↓zl_105, ↓za_106, ↓zs_106, ↓zl_106, ↓za_107, ↓zs_107, ↓zl_107, ↓za_108, ↓zs_108, ↓zl_108, ↓za_109, ↓zs_109, ↓zl_109, hand_id, n01, n05, ob, Nat.zero_le, Nat.not_lt_zero, i10, i01, i12, i21, i20, i02, nl_le1, nl_le2, nl_lt1, nl_lt2, nl_eq1, nl_eq2, nn_le, nn_lt, nn_eq, nl_m1, m1_nl, z_lt, z_le, z_le2, z_lt2, z_eq, nI_l1, nI_l2, nI_l3, nI_l4, nI_add, nI_mul_, tn_n, tn_l, bI_0, bI_1, bI_z, bI_t, bI_f, Bool.false_eq_true, Bool.true_eq_false, eq_self, if_true, if_false, ↓reduceIte, reduceCtorEq, not_true_eq_false, not_false_eq_true, stI_s, stJ_s, ri_p, ri_k, ri_j, ri_1, ri_2, rj_i, rj_1, rj_2, rj_p, rj_k]
        exact Qy.ret (Eqv.refl h)
      | true =>
        obtain ⟨m, hm, rfl⟩ := inb_of (by omega) ey
        obtain ⟨h1, e1, r1, v1, w1⟩ := ct.poll (m := m) (by omega) L1 L2 L3
        simp (disch := first | rfl | decide | omega | (simp (disch := first | omega | decide) only [nI_l1, nI_l2, nI_l3, nI_l4, nI_add, nI_mul_]; exact ix_n (by omega) (by omega)) | (exact ix_n (by omega) (by omega)) | (exact ix_l (by decide) (by decide)) | assumption) only [↓bs_ (q_hasM ct (nI m)), ey, ↓bs_ lo, ↓bs_ r1, w1, q_bitsA S_1 _ _ n' f' m h7, ↓zI, ↓zP, ↓zZ, ↓zC, ↓zJ, ↓zQ, ↓zE, ↓zK, ↓zF, ↓zD, ↓zr_0_0, ↓zr_0_2, ↓zr_0_3, ↓zr_0_4, ↓zr_0_5, ↓zr_0_6, ↓zr_0_7, ↓zr_0_8, ↓zr_0_9, ↓zr_0_10, ↓zr_0_11, ↓zr_0_12, ↓zr_0_13, ↓zr_2_0, ↓zr_2_2, ↓zr_2_3, ↓zr_2_5, ↓zr_2_6, ↓zr_2_11, ↓zr_2_13, ↓zr_2_14, ↓zr_3_0, ↓zr_3_1, ↓zr_12_0, ↓zr_12_1, ↓zr_16_0, ↓zr_16_1, ↓zr_19_0, ↓zr_19_1, ↓zr_22_0, ↓zr_22_1, ↓zr_25_0, ↓zr_25_1, ↓zr_28_0, ↓zr_29_0, ↓zr_29_1, ↓zr_32_0, ↓zr_32_1, ↓zr_35_0, ↓zr_35_1, ↓zr_35_4, ↓zr_35_5, ↓zr_38_0, ↓zr_38_1, ↓zr_38_2, ↓zr_38_3, ↓zr_38_4, ↓zr_39_0, ↓zr_39_1, ↓zr_45_0, ↓zr_45_1, ↓zr_46_0, ↓zr_46_1, ↓zr_46_2, ↓zr_50_0, ↓zr_50_1, ↓zr_54_0, ↓zr_54_2, ↓zr_54_3, ↓zr_54_5, ↓zr_54_6, ↓zr_54_11, ↓zr_54_13, ↓zr_54_14, ↓zr_55_0, ↓zr_55_1, ↓zr_64_0, ↓zr_64_1, ↓zr_67_0, ↓zr_67_2, ↓zr_67_3, ↓zr_67_5, ↓zr_67_6, ↓zr_67_11, ↓zr_67_13, ↓zr_67_14, ↓zr_68_0, ↓zr_68_1, ↓zr_77_0, ↓zr_77_1, ↓zr_80_2, ↓zr_80_3, ↓zr_80_4, ↓zr_80_5, ↓zr_80_6, ↓zr_80_7, ↓zr_80_9, ↓zr_80_10, ↓zr_80_12, ↓zr_80_22, ↓zr_80_24, ↓zr_80_25, ↓zr_80_27, ↓zr_80_28, ↓zr_80_31, ↓zr_80_32, ↓zr_80_33, ↓zr_80_35, ↓zr_80_36, ↓zr_80_37, ↓zr_80_41, ↓zr_80_42, ↓zr_80_43, ↓zr_80_44, ↓zr_80_46, ↓zr_80_47, ↓zr_80_48, ↓zr_80_49, ↓zr_80_55, ↓za_1, ↓zs_1, ↓zl_1, ↓za_4, ↓zs_4, ↓zl_4, ↓za_5, ↓zs_5, ↓zl_5, ↓za_6, ↓zs_6, ↓zl_6, ↓za_7, ↓zs_7, ↓zl_7, ↓za_8, ↓zs_8, ↓zl_8, ↓za_9, ↓zs_9, ↓zl_9, ↓za_10, ↓zs_10, ↓zl_10, ↓za_17, ↓zs_17, ↓zl_17, ↓za_18, ↓zs_18, ↓zl_18, ↓za_20, ↓zs_20, ↓zl_20, ↓za_21, ↓zs_21, ↓zl_21, ↓za_23, ↓zs_23, ↓zl_23, ↓za_24, ↓zs_24, ↓zl_24, ↓za_26, ↓zs_26, ↓zl_26, ↓za_27, ↓zs_27, ↓zl_27, ↓za_30, ↓zs_30, ↓zl_30, ↓za_31, ↓zs_31, ↓zl_31, ↓za_33, ↓zs_33, ↓zl_33, ↓za_34, ↓zs_34, ↓zl_34, ↓za_36, ↓zs_36, ↓zl_36, ↓za_37, ↓zs_37, ↓zl_37, ↓za_40, ↓zs_40, ↓zl_40, ↓za_41, ↓zs_41, ↓zl_41, ↓za_42, ↓zs_42, ↓zl_42, ↓za_43, ↓zs_43, ↓zl_43, ↓za_44, ↓zs_44, ↓zl_44, ↓za_47, ↓zs_47, ↓zl_47, ↓za_48, ↓zs_48, ↓zl_48, ↓za_49, ↓zs_49, ↓zl_49, ↓za_51, ↓zs_51, ↓zl_51, ↓za_52, ↓zs_52, ↓zl_52, ↓za_53, ↓zs_53, ↓zl_53, ↓za_56, ↓zs_56, ↓zl_56, ↓za_57, ↓zs_57, ↓zl_57, ↓za_58, ↓zs_58, ↓zl_58, ↓za_59, ↓zs_59, ↓zl_59, ↓za_60, ↓zs_60, ↓zl_60, ↓za_61, ↓zs_61, ↓zl_61, ↓za_62, ↓zs_62, ↓zl_62, ↓za_69, ↓zs_69, ↓zl_69, ↓za_70, ↓zs_70, ↓zl_70, ↓za_71, ↓zs_71, ↓zl_71, ↓za_72, ↓zs_72, ↓zl_72, ↓za_73, ↓zs_73, ↓zl_73, ↓za_74, ↓zs_74, ↓zl_74, ↓za_75, ↓zs_75, ↓zl_75, ↓za_81, ↓zs_81, ↓zl_81, ↓za_82, ↓zs_82, ↓zl_82, ↓za_83, ↓zs_83, ↓zl_83, ↓za_84, ↓zs_84, ↓zl_84, ↓za_85, ↓zs_85, ↓zl_85, ↓za_86, ↓zs_86, ↓zl_86, ↓za_87, ↓zs_87, ↓zl_87, ↓za_88, ↓zs_88, ↓zl_88, ↓za_89, ↓zs_89, ↓zl_89, ↓za_90, ↓zs_90, ↓zl_90, ↓za_91, ↓zs_91, ↓zl_91, ↓za_92, ↓zs_92, ↓zl_92, ↓za_93, ↓zs_93, ↓zl_93, ↓za_94, ↓zs_94, ↓zl_94, ↓za_95, ↓zs_95, ↓zl_95, ↓za_96, ↓zs_96, ↓zl_96, ↓za_97, ↓zs_97, ↓zl_97, ↓za_98, ↓zs_98, ↓zl_98, ↓za_99, ↓zs_99, ↓zl_99, ↓za_100, ↓zs_100, ↓zl_100, ↓za_101, ↓zs_101, ↓zl_101, ↓za_102, ↓zs_102, ↓zl_102, ↓za_103, ↓zs_103, ↓zl_103, ↓za_104, ↓zs_104, ↓zl_104, ↓za_105, ↓zs_105, ↓zl_105, ↓za_106, ↓zs_106, ↓zl_106, ↓za_107, ↓zs_107, ↓zl_107, ↓za_108, ↓zs_108, ↓zl_108, ↓za_109, ↓zs_109, ↓zl_109, hand_id, n01, n05, ob, Nat.zero_le, Nat.not_lt_zero, i10, i01, i12, i21, i20, i02, nl_le1, nl_le2, nl_lt1, nl_lt2, nl_eq1, nl_eq2, nn_le, nn_lt, nn_eq, nl_m1, m1_nl, z_lt, z_le, z_le2, z_lt2, z_eq, nI_l1, nI_l2, nI_l3, nI_l4, nI_add, nI_mul_, tn_n, tn_l, bI_0, bI_1, bI_z, bI_t, bI_f, Bool.false_eq_true, Bool.true_eq_false, eq_self, if_true, if_false, ↓reduceIte, reduceCtorEq, not_true_eq_false, not_false_eq_true, stI_s, stJ_s, ri_p, ri_k, ri_j, ri_1, ri_2, rj_i, rj_1, rj_2, rj_p, rj_k]
        exact Qy.ret (e1.mono PX_W0)
    · have c2 := cm.w e2
      have er := e2.w82
      have il : f_X11_isLaw S_1 80 x h2 = some (bI true, h2) := by
        rw [m_isLaw h2 x (n := nl) (by rw [er]; exact hl) (by omega), decide_eq_true hx]
      cases ey : inb y nm with
      | false =>
        simp (disch := first | rfl | decide | omega | (simp (disch := first | omega | decide) only [nI_l1, nI_l2, nI_l3, nI_l4, nI_add, nI_mul_]; exact ix_n (by omega) (by omega)) | (exact ix_n (by omega) (by omega)) | (exact ix_l (by decide) (by decide)) | assumption) only [↓bs_ il, ↓bs_ (mi_M c2 y), ey, ↓zI, ↓zP, ↓zZ, ↓zC, ↓zJ, ↓zQ, ↓zE, ↓zK, ↓zF, ↓zD, ↓zr_0_0, ↓zr_0_2, ↓zr_0_3, ↓zr_0_4, ↓zr_0_5, ↓zr_0_6, ↓zr_0_7, ↓zr_0_8, ↓zr_0_9, ↓zr_0_10, ↓zr_0_11, ↓zr_0_12, ↓zr_0_13, ↓zr_2_0, ↓zr_2_2, ↓zr_2_3, ↓zr_2_5, ↓zr_2_6, ↓zr_2_11, ↓zr_2_13, ↓zr_2_14, ↓zr_3_0, ↓zr_3_1, ↓zr_12_0, ↓zr_12_1, ↓zr_16_0, ↓zr_16_1, ↓zr_19_0, ↓zr_19_1, ↓zr_22_0, ↓zr_22_1, ↓zr_25_0, ↓zr_25_1, ↓zr_28_0, ↓zr_29_0, ↓zr_29_1, ↓zr_32_0, ↓zr_32_1, ↓zr_35_0, ↓zr_35_1, ↓zr_35_4, ↓zr_35_5, ↓zr_38_0, ↓zr_38_1, ↓zr_38_2, ↓zr_38_3, ↓zr_38_4, ↓zr_39_0, ↓zr_39_1, ↓zr_45_0, ↓zr_45_1, ↓zr_46_0, ↓zr_46_1, ↓zr_46_2, ↓zr_50_0, ↓zr_50_1, ↓zr_54_0, ↓zr_54_2, ↓zr_54_3, ↓zr_54_5, ↓zr_54_6, ↓zr_54_11, ↓zr_54_13, ↓zr_54_14, ↓zr_55_0, ↓zr_55_1, ↓zr_64_0, ↓zr_64_1, ↓zr_67_0, ↓zr_67_2, ↓zr_67_3, ↓zr_67_5, ↓zr_67_6, ↓zr_67_11, ↓zr_67_13, ↓zr_67_14, ↓zr_68_0, ↓zr_68_1, ↓zr_77_0, ↓zr_77_1, ↓zr_80_2, ↓zr_80_3, ↓zr_80_4, ↓zr_80_5, ↓zr_80_6, ↓zr_80_7, ↓zr_80_9, ↓zr_80_10, ↓zr_80_12, ↓zr_80_22, ↓zr_80_24, ↓zr_80_25, ↓zr_80_27, ↓zr_80_28, ↓zr_80_31, ↓zr_80_32, ↓zr_80_33, ↓zr_80_35, ↓zr_80_36, ↓zr_80_37, ↓zr_80_41, ↓zr_80_42, ↓zr_80_43, ↓zr_80_44, ↓zr_80_46, ↓zr_80_47, ↓zr_80_48, ↓zr_80_49, ↓zr_80_55, ↓za_1, ↓zs_1, ↓zl_1, ↓za_4, ↓zs_4, ↓zl_4, ↓za_5, ↓zs_5, ↓zl_5, ↓za_6, ↓zs_6, ↓zl_6, ↓za_7, ↓zs_7, ↓zl_7, ↓za_8, ↓zs_8, ↓zl_8, ↓za_9, ↓zs_9, ↓zl_9, ↓za_10, ↓zs_10, ↓zl_10, ↓za_17, ↓zs_17, ↓zl_17, ↓za_18, ↓zs_18, ↓zl_18, ↓za_20, ↓zs_20, ↓zl_20, ↓za_21, ↓zs_21, ↓zl_21, ↓za_23, ↓zs_23, ↓zl_23, ↓za_24, ↓zs_24, ↓zl_24, ↓za_26, ↓zs_26, ↓zl_26, ↓za_27, ↓zs_27, ↓zl_27, ↓za_30, ↓zs_30, ↓zl_30, ↓za_31, ↓zs_31, ↓zl_31, ↓za_33, ↓zs_33, ↓zl_33, ↓za_34, ↓zs_34, ↓zl_34, ↓za_36, ↓zs_36, ↓zl_36, ↓za_37, ↓zs_37, ↓zl_37, ↓za_40, ↓zs_40, ↓zl_40, ↓za_41, ↓zs_41, ↓zl_41, ↓za_42, ↓zs_42, ↓zl_42, ↓za_43, ↓zs_43, ↓zl_43, ↓za_44, ↓zs_44, ↓zl_44, ↓za_47, ↓zs_47, ↓zl_47, ↓za_48, ↓zs_48, ↓zl_48, ↓za_49, ↓zs_49, ↓zl_49, ↓za_51, ↓zs_51, ↓zl_51, ↓za_52, ↓zs_52, ↓zl_52, ↓za_53, ↓zs_53, ↓zl_53, ↓za_56, ↓zs_56, ↓zl_56, ↓za_57, ↓zs_57, ↓zl_57, ↓za_58, ↓zs_58, ↓zl_58, ↓za_59, ↓zs_59, ↓zl_59, ↓za_60, ↓zs_60, ↓zl_60, ↓za_61, ↓zs_61, ↓zl_61, ↓za_62, ↓zs_62, ↓zl_62, ↓za_69, ↓zs_69, ↓zl_69, ↓za_70, ↓zs_70, ↓zl_70, ↓za_71, ↓zs_71, ↓zl_71, ↓za_72, ↓zs_72, ↓zl_72, ↓za_73, ↓zs_73, ↓zl_73, ↓za_74, ↓zs_74, ↓zl_74, ↓za_75, ↓zs_75, ↓zl_75, ↓za_81, ↓zs_81, ↓zl_81, ↓za_82, ↓zs_82, ↓zl_82, ↓za_83, ↓zs_83, ↓zl_83, ↓za_84, ↓zs_84, ↓zl_84, ↓za_85, ↓zs_85, ↓zl_85, ↓za_86, ↓zs_86, ↓zl_86, ↓za_87, ↓zs_87, ↓zl_87, ↓za_88, ↓zs_88, ↓zl_88, ↓za_89, ↓zs_89, ↓zl_89, ↓za_90, ↓zs_90, ↓zl_90, ↓za_91, ↓zs_91, ↓zl_91, ↓za_92, ↓zs_92, ↓zl_92, ↓za_93, ↓zs_93, ↓zl_93, ↓za_94, ↓zs_94, ↓zl_94, ↓za_95, ↓zs_95, ↓zl_95, ↓za_96, ↓zs_96, ↓zl_96, ↓za_97, ↓zs_97, ↓zl_97, ↓za_98, ↓zs_98, ↓zl_98, ↓za_99, ↓zs_99, ↓zl_99, ↓za_100, ↓zs_100, ↓zl_100, ↓za_101, ↓zs_101, ↓zl_101, ↓za_102, ↓zs_102, ↓zl_102, ↓za_103, ↓zs_103, ↓zl_103, ↓za_104, ↓zs_104, ↓zl_104, ↓za_105, ↓zs_105, ↓zl_105, ↓za_106, ↓zs_106, ↓zl_106, ↓za_107, ↓zs_107, ↓zl_107, ↓za_108, ↓zs_108, ↓zl_108, ↓za_109, ↓zs_109, ↓zl_109, hand_id, n01, n05, ob, Nat.zero_le, Nat.not_lt_zero, i10, i01, i12, i21, i20, i02, nl_le1, nl_le2, nl_lt1, nl_lt2, nl_eq1, nl_eq2, nn_le, nn_lt, nn_eq, nl_m1, m1_nl, z_lt, z_le, z_le2, z_lt2, z_eq, nI_l1, nI_l2, nI_l3, nI_l4, nI_add, nI_mul_, tn_n, tn_l, bI_0, bI_1, bI_z, bI_t, bI_f, Bool.false_eq_true, Bool.true_eq_false, eq_self, if_true, if_false, ↓reduceIte, reduceCtorEq, not_true_eq_false, not_false_eq_true, stI_s, stJ_s, ri_p, ri_k, ri_j, ri_1, ri_2, rj_i, rj_1, rj_2, rj_p, rj_k]
        exact Qy.ret (Eqv.refl h2)
      | true =>
        obtain ⟨m, hm, rfl⟩ := inb_of (by omega) ey
        simp (disch := first | rfl | decide | omega | (simp (disch := first | omega | decide) only [nI_l1, nI_l2, nI_l3, nI_l4, nI_add, nI_mul_]; exact ix_n (by omega) (by omega)) | (exact ix_n (by omega) (by omega)) | (exact ix_l (by decide) (by decide)) | assumption) only [↓bs_ il, ↓bs_ (mi_M c2 (nI m)), ey, ↓zI, ↓zP, ↓zZ, ↓zC, ↓zJ, ↓zQ, ↓zE, ↓zK, ↓zF, ↓zD, ↓zr_0_0, ↓zr_0_2, ↓zr_0_3, ↓zr_0_4, ↓zr_0_5, ↓zr_0_6, ↓zr_0_7, ↓zr_0_8, ↓zr_0_9, ↓zr_0_10, ↓zr_0_11, ↓zr_0_12, ↓zr_0_13, ↓zr_2_0, ↓zr_2_2, ↓zr_2_3, ↓zr_2_5, ↓zr_2_6, ↓zr_2_11, ↓zr_2_13, ↓zr_2_14, ↓zr_3_0, ↓zr_3_1, ↓zr_12_0, ↓zr_12_1, ↓zr_16_0, ↓zr_16_1, ↓zr_19_0, ↓zr_19_1, ↓zr_22_0, ↓zr_22_1, ↓zr_25_0, ↓zr_25_1, ↓zr_28_0, ↓zr_29_0, ↓zr_29_1, ↓zr_32_0, ↓zr_32_1, ↓zr_35_0, ↓zr_35_1, ↓zr_35_4, ↓zr_35_5, ↓zr_38_0, ↓zr_38_1, ↓zr_38_2, ↓zr_38_3, ↓zr_38_4, ↓zr_39_0, ↓zr_39_1, ↓zr_45_0, ↓zr_45_1, ↓zr_46_0, ↓zr_46_1, ↓zr_46_2, ↓zr_50_0, ↓zr_50_1, ↓zr_54_0, ↓zr_54_2, ↓zr_54_3, ↓zr_54_5, ↓zr_54_6, ↓zr_54_11, ↓zr_54_13, ↓zr_54_14, ↓zr_55_0, ↓zr_55_1, ↓zr_64_0, ↓zr_64_1, ↓zr_67_0, ↓zr_67_2, ↓zr_67_3, ↓zr_67_5, ↓zr_67_6, ↓zr_67_11, ↓zr_67_13, ↓zr_67_14, ↓zr_68_0, ↓zr_68_1, ↓zr_77_0, ↓zr_77_1, ↓zr_80_2, ↓zr_80_3, ↓zr_80_4, ↓zr_80_5, ↓zr_80_6, ↓zr_80_7, ↓zr_80_9, ↓zr_80_10, ↓zr_80_12, ↓zr_80_22, ↓zr_80_24, ↓zr_80_25, ↓zr_80_27, ↓zr_80_28, ↓zr_80_31, ↓zr_80_32, ↓zr_80_33, ↓zr_80_35, ↓zr_80_36, ↓zr_80_37, ↓zr_80_41, ↓zr_80_42, ↓zr_80_43, ↓zr_80_44, ↓zr_80_46, ↓zr_80_47, ↓zr_80_48, ↓zr_80_49, ↓zr_80_55, ↓za_1, ↓zs_1, ↓zl_1, ↓za_4, ↓zs_4, ↓zl_4, ↓za_5, ↓zs_5, ↓zl_5, ↓za_6, ↓zs_6, ↓zl_6, ↓za_7, ↓zs_7, ↓zl_7, ↓za_8, ↓zs_8, ↓zl_8, ↓za_9, ↓zs_9, ↓zl_9, ↓za_10, ↓zs_10, ↓zl_10, ↓za_17, ↓zs_17, ↓zl_17, ↓za_18, ↓zs_18, ↓zl_18, ↓za_20, ↓zs_20, ↓zl_20, ↓za_21, ↓zs_21, ↓zl_21, ↓za_23, ↓zs_23, ↓zl_23, ↓za_24, ↓zs_24, ↓zl_24, ↓za_26, ↓zs_26, ↓zl_26, ↓za_27, ↓zs_27, ↓zl_27, ↓za_30, ↓zs_30, ↓zl_30, ↓za_31, ↓zs_31, ↓zl_31, ↓za_33, ↓zs_33, ↓zl_33, ↓za_34, ↓zs_34, ↓zl_34, ↓za_36, ↓zs_36, ↓zl_36, ↓za_37, ↓zs_37, ↓zl_37, ↓za_40, ↓zs_40, ↓zl_40, ↓za_41, ↓zs_41, ↓zl_41, ↓za_42, ↓zs_42, ↓zl_42, ↓za_43, ↓zs_43, ↓zl_43, ↓za_44, ↓zs_44, ↓zl_44, ↓za_47, ↓zs_47, ↓zl_47, ↓za_48, ↓zs_48, ↓zl_48, ↓za_49, ↓zs_49, ↓zl_49, ↓za_51, ↓zs_51, ↓zl_51, ↓za_52, ↓zs_52, ↓zl_52, ↓za_53, ↓zs_53, ↓zl_53, ↓za_56, ↓zs_56, ↓zl_56, ↓za_57, ↓zs_57, ↓zl_57, ↓za_58, ↓zs_58, ↓zl_58, ↓za_59, ↓zs_59, ↓zl_59, ↓za_60, ↓zs_60, ↓zl_60, ↓za_61, ↓zs_61, ↓zl_61, ↓za_62, ↓zs_62, ↓zl_62, ↓za_69, ↓zs_69, ↓zl_69, ↓za_70, ↓zs_70, ↓zl_70, ↓za_71, ↓zs_71, ↓zl_71, ↓za_72, ↓zs_72, ↓zl_72, ↓za_73, ↓zs_73, ↓zl_73, ↓za_74, ↓zs_74, ↓zl_74, ↓za_75, ↓zs_75, ↓zl_75, ↓za_81, ↓zs_81, ↓zl_81, ↓za_82, ↓zs_82, ↓zl_82, ↓za_83, ↓zs_83, ↓zl_83, ↓za_84, ↓zs_84, ↓zl_84, ↓za_85, ↓zs_85, ↓zl_85, ↓za_86, ↓zs_86, ↓zl_86, ↓za_87, ↓zs_87, ↓zl_87, ↓za_88, ↓zs_88, ↓zl_88, ↓za_89, ↓zs_89, ↓zl_89, ↓za_90, ↓zs_90, ↓zl_90, ↓za_91, ↓zs_91, ↓zl_91, ↓za_92, ↓zs_92, ↓zl_92, ↓za_93, ↓zs_93, ↓zl_93, ↓za_94, ↓zs_94, ↓zl_94, ↓za_95, ↓zs_95, ↓zl_95, ↓za_96, ↓zs_96, ↓zl_96, ↓za_97, ↓zs_97, ↓zl_97, ↓za_98, ↓zs_98, ↓zl_98, ↓za_99, ↓zs_99, ↓zl_99, ↓za_100, ↓zs_100, ↓zl_100, ↓za_101, ↓zs_101, ↓zl_101, ↓za_102, ↓zs_102, ↓zl_102, ↓za_103, ↓zs_103, ↓zl_103, ↓za_104, ↓zs_104, ↓zl_104, ↓za_105, ↓zs_105, ↓zl_105, ↓za_106, ↓zs_106, ↓zl_106, ↓za_107, ↓zs_107, ↓zl_107, ↓za_108, ↓zs_108, ↓zl_108, ↓za_109, ↓zs_109, ↓zl_109, hand_id, n01, n05, ob, Nat.zero_le, Nat.not_lt_zero, i10, i01, i12, i21, i20, i02, nl_le1, nl_le2, nl_lt1, nl_lt2, nl_eq1, nl_eq2, nn_le, nn_lt, nn_eq, nl_m1, m1_nl, z_lt, z_le, z_le2, z_lt2, z_eq, nI_l1, nI_l2, nI_l3, nI_l4, nI_add, nI_mul_, tn_n, tn_l, bI_0, bI_1, bI_z, bI_t, bI_f, Bool.false_eq_true, Bool.true_eq_false, eq_self, if_true, if_false, ↓reduceIte, reduceCtorEq, not_true_eq_false, not_false_eq_true, stI_s, stJ_s, ri_p, ri_k, ri_j, ri_1, ri_2, rj_i, rj_1, rj_2, rj_p, rj_k]
        have rr : (stI h2 82 4 x).2.1 82 = rset (h.2.1 82) 4 x := by rw [u2_rset, er]
        have ra : ∀ j, j ≠ 4 → rset (h.2.1 82) 4 x j = h.2.1 82 j := fun j hj => rset_n _ _ hj
        have I3 : InM (stI h2 82 4 x) n' f' := by
          rcases L4 with ⟨a, b⟩ | ⟨i, a, b, c⟩
          · exact Or.inl ⟨(stI_s _ _ _ _).trans a, b⟩
          · refine Or.inr ⟨i, a, (stI_s _ _ _ _).trans b, ?_⟩
            rw [LawR_M, rr]
            exact c.cong (by omega) fun j hj => ra _ (by omega)
        obtain ⟨h3, r3, e3⟩ := m_ayes (m := m) (nb := nb) (by omega) (stI h2 82 4 x) I3 c2.2.1 ((ri_k (by decide)).trans c2.2.2.1) h7
        rw [rr] at r3
        have v3 : bits nb (fun b => ayS (rset (h.2.1 82) 4 x) n' f' b m) = setA (h.2.1 82) n' f' nb m := setA_cong ra n' f' nb m
        rw [v3] at r3
        simp (disch := first | rfl | decide | omega | (simp (disch := first | omega | decide) only [nI_l1, nI_l2, nI_l3, nI_l4, nI_add, nI_mul_]; exact ix_n (by omega) (by omega)) | (exact ix_n (by omega) (by omega)) | (exact ix_l (by decide) (by decide)) | assumption) only [↓bs_ r3, ↓bs_ (x_ones S_1 _ _), ↓zI, ↓zP, ↓zZ, ↓zC, ↓zJ, ↓zQ, ↓zE, ↓zK, ↓zF, ↓zD, ↓zr_0_0, ↓zr_0_2, ↓zr_0_3, ↓zr_0_4, ↓zr_0_5, ↓zr_0_6, ↓zr_0_7, ↓zr_0_8, ↓zr_0_9, ↓zr_0_10, ↓zr_0_11, ↓zr_0_12, ↓zr_0_13, ↓zr_2_0, ↓zr_2_2, ↓zr_2_3, ↓zr_2_5, ↓zr_2_6, ↓zr_2_11, ↓zr_2_13, ↓zr_2_14, ↓zr_3_0, ↓zr_3_1, ↓zr_12_0, ↓zr_12_1, ↓zr_16_0, ↓zr_16_1, ↓zr_19_0, ↓zr_19_1, ↓zr_22_0, ↓zr_22_1, ↓zr_25_0, ↓zr_25_1, ↓zr_28_0, ↓zr_29_0, ↓zr_29_1, ↓zr_32_0, ↓zr_32_1, ↓zr_35_0, ↓zr_35_1, ↓zr_35_4, ↓zr_35_5, ↓zr_38_0, ↓zr_38_1, ↓zr_38_2, ↓zr_38_3, ↓zr_38_4, ↓zr_39_0, ↓zr_39_1, ↓zr_45_0, ↓zr_45_1, ↓zr_46_0, ↓zr_46_1, ↓zr_46_2, ↓zr_50_0, ↓zr_50_1, ↓zr_54_0, ↓zr_54_2, ↓zr_54_3, ↓zr_54_5, ↓zr_54_6, ↓zr_54_11, ↓zr_54_13, ↓zr_54_14, ↓zr_55_0, ↓zr_55_1, ↓zr_64_0, ↓zr_64_1, ↓zr_67_0, ↓zr_67_2, ↓zr_67_3, ↓zr_67_5, ↓zr_67_6, ↓zr_67_11, ↓zr_67_13, ↓zr_67_14, ↓zr_68_0, ↓zr_68_1, ↓zr_77_0, ↓zr_77_1, ↓zr_80_2, ↓zr_80_3, ↓zr_80_4, ↓zr_80_5, ↓zr_80_6, ↓zr_80_7, ↓zr_80_9, ↓zr_80_10, ↓zr_80_12, ↓zr_80_22, ↓zr_80_24, ↓zr_80_25, ↓zr_80_27, ↓zr_80_28, ↓zr_80_31, ↓zr_80_32, ↓zr_80_33, ↓zr_80_35, ↓zr_80_36, ↓zr_80_37, ↓zr_80_41, ↓zr_80_42, ↓zr_80_43, ↓zr_80_44, ↓zr_80_46, ↓zr_80_47, ↓zr_80_48, ↓zr_80_49, ↓zr_80_55, ↓za_1, ↓zs_1, ↓zl_1, ↓za_4, ↓zs_4, ↓zl_4, ↓za_5, ↓zs_5, ↓zl_5, ↓za_6, ↓zs_6, ↓zl_6, ↓za_7, ↓zs_7, ↓zl_7, ↓za_8, ↓zs_8, ↓zl_8, ↓za_9, ↓zs_9, ↓zl_9, ↓za_10, ↓zs_10, ↓zl_10, ↓za_17, ↓zs_17, ↓zl_17, ↓za_18, ↓zs_18, ↓zl_18, ↓za_20, ↓zs_20, ↓zl_20, ↓za_21, ↓zs_21, ↓zl_21, ↓za_23, ↓zs_23, ↓zl_23, ↓za_24, ↓zs_24, ↓zl_24, ↓za_26, ↓zs_26, ↓zl_26, ↓za_27, ↓zs_27, ↓zl_27, ↓za_30, ↓zs_30, ↓zl_30, ↓za_31, ↓zs_31, ↓zl_31, ↓za_33, ↓zs_33, ↓zl_33, ↓za_34, ↓zs_34, ↓zl_34, ↓za_36, ↓zs_36, ↓zl_36, ↓za_37, ↓zs_37, ↓zl_37, ↓za_40, ↓zs_40, ↓zl_40, ↓za_41, ↓zs_41, ↓zl_41, ↓za_42, ↓zs_42, ↓zl_42, ↓za_43, ↓zs_43, ↓zl_43, ↓za_44, ↓zs_44, ↓zl_44, ↓za_47, ↓zs_47, ↓zl_47, ↓za_48, ↓zs_48, ↓zl_48, ↓za_49, ↓zs_49, ↓zl_49, ↓za_51, ↓zs_51, ↓zl_51, ↓za_52, ↓zs_52, ↓zl_52, ↓za_53, ↓zs_53, ↓zl_53, ↓za_56, ↓zs_56, ↓zl_56, ↓za_57, ↓zs_57, ↓zl_57, ↓za_58, ↓zs_58, ↓zl_58, ↓za_59, ↓zs_59, ↓zl_59, ↓za_60, ↓zs_60, ↓zl_60, ↓za_61, ↓zs_61, ↓zl_61, ↓za_62, ↓zs_62, ↓zl_62, ↓za_69, ↓zs_69, ↓zl_69, ↓za_70, ↓zs_70, ↓zl_70, ↓za_71, ↓zs_71, ↓zl_71, ↓za_72, ↓zs_72, ↓zl_72, ↓za_73, ↓zs_73, ↓zl_73, ↓za_74, ↓zs_74, ↓zl_74, ↓za_75, ↓zs_75, ↓zl_75, ↓za_81, ↓zs_81, ↓zl_81, ↓za_82, ↓zs_82, ↓zl_82, ↓za_83, ↓zs_83, ↓zl_83, ↓za_84, ↓zs_84, ↓zl_84, ↓za_85, ↓zs_85, ↓zl_85, ↓za_86, ↓zs_86, ↓zl_86, ↓za_87, ↓zs_87, ↓zl_87, ↓za_88, ↓zs_88, ↓zl_88, ↓za_89, ↓zs_89, ↓zl_89, ↓za_90, ↓zs_90, ↓zl_90, ↓za_91, ↓zs_91, ↓zl_91, ↓za_92, ↓zs_92, ↓zl_92, ↓za_93, ↓zs_93, ↓zl_93, ↓za_94, ↓zs_94, ↓zl_94, ↓za_95, ↓zs_95, ↓zl_95, ↓za_96, ↓zs_96, ↓zl_96, ↓za_97, ↓zs_97, ↓zl_97, ↓za_98, ↓zs_98, ↓zl_98, ↓za_99, ↓zs_99, ↓zl_99, ↓za_100, ↓zs_100, ↓zl_100, ↓za_101, ↓zs_101, ↓zl_101, ↓za_102, ↓zs_102, ↓zl_102, ↓za_103, ↓zs_103, ↓zl_103, ↓za_104, ↓zs_104, ↓zl_104, ↓za_105, ↓zs_105, ↓zl_105, ↓za_106, ↓zs_106, ↓zl_106, ↓za_107, ↓zs_107, ↓zl_107, ↓za_108, ↓zs_108, ↓zl_108, ↓za_109, ↓zs_109, ↓zl_109, hand_id, n01, n05, ob, Nat.zero_le, Nat.not_lt_zero, i10, i01, i12, i21, i20, i02, nl_le1, nl_le2, nl_lt1, nl_lt2, nl_eq1, nl_eq2, nn_le, nn_lt, nn_eq, nl_m1, m1_nl, z_lt, z_le, z_le2, z_lt2, z_eq, nI_l1, nI_l2, nI_l3, nI_l4, nI_add, nI_mul_, tn_n, tn_l, bI_0, bI_1, bI_z, bI_t, bI_f, Bool.false_eq_true, Bool.true_eq_false, eq_self, if_true, if_false, ↓reduceIte, reduceCtorEq, not_true_eq_false, not_false_eq_true, stI_s, stJ_s, ri_p, ri_k, ri_j, ri_1, ri_2, rj_i, rj_1, rj_2, rj_p, rj_k]
        refine ⟨_, rfl, e3.1, fun p j hn => ?_, fun p j hn => ?_, e3.r⟩
        · by_cases e4 : p = 82 ∧ j = 4
          · rw [e4.1, e4.2, stI_s]
          · have : (stI h3 82 4 (h2.2.1 82 4)).2.1 p j = h3.2.1 p j := by
              by_cases ep : p = 82
              · exact ri_k (fun z => e4 ⟨ep, z⟩)
              · exact ri_p ep
            rw [this]
            have t : PT p j = false := by
              cases et : PT p j with
              | false => rfl
              | true => rw [PT_W0 p j et] at hn; cases hn
            rw [e3.i p j t]
            by_cases ep : p = 82
            · exact ri_k (fun z => e4 ⟨ep, z⟩)
            · exact ri_p ep
        · have t : PT p j = false := by
            cases et : PT p j with
            | false => rfl
            | true => rw [PT_W0 p j et] at hn; cases hn
          exact e3.l p j t
  · refine both_q2 (v := -1) (fun _ => rfl) k ?_ (fun h2 e2 => ?_)
    · unfold f_X10_compare
      rw [if_neg (fun z => hx (Or.inl z)), bs_ (yr_0_2 h), bs_ (ck_2 h), bs_ (q_hasLaw h x hlx hl6)]
      dsimp only
      rw [if_pos (by rw [bI_0, decide_eq_false (fun z => hx (Or.inr z))])]
      exact Qy.ret (Eqv.refl h)
    · have il : f_X11_isLaw S_1 80 x h2 = some (bI false, h2) := by
        rw [m_isLaw h2 x (n := nl) (by rw [e2.w82]; exact hl) (by omega), decide_eq_false hx]
      simp (disch := first | rfl | decide | omega | (simp (disch := first | omega | decide) only [nI_l1, nI_l2, nI_l3, nI_l4, nI_add, nI_mul_]; exact ix_n (by omega) (by omega)) | (exact ix_n (by omega) (by omega)) | (exact ix_l (by decide) (by decide)) | assumption) only [↓bs_ il, ↓zI, ↓zP, ↓zZ, ↓zC, ↓zJ, ↓zQ, ↓zE, ↓zK, ↓zF, ↓zD, ↓zr_0_0, ↓zr_0_2, ↓zr_0_3, ↓zr_0_4, ↓zr_0_5, ↓zr_0_6, ↓zr_0_7, ↓zr_0_8, ↓zr_0_9, ↓zr_0_10, ↓zr_0_11, ↓zr_0_12, ↓zr_0_13, ↓zr_2_0, ↓zr_2_2, ↓zr_2_3, ↓zr_2_5, ↓zr_2_6, ↓zr_2_11, ↓zr_2_13, ↓zr_2_14, ↓zr_3_0, ↓zr_3_1, ↓zr_12_0, ↓zr_12_1, ↓zr_16_0, ↓zr_16_1, ↓zr_19_0, ↓zr_19_1, ↓zr_22_0, ↓zr_22_1, ↓zr_25_0, ↓zr_25_1, ↓zr_28_0, ↓zr_29_0, ↓zr_29_1, ↓zr_32_0, ↓zr_32_1, ↓zr_35_0, ↓zr_35_1, ↓zr_35_4, ↓zr_35_5, ↓zr_38_0, ↓zr_38_1, ↓zr_38_2, ↓zr_38_3, ↓zr_38_4, ↓zr_39_0, ↓zr_39_1, ↓zr_45_0, ↓zr_45_1, ↓zr_46_0, ↓zr_46_1, ↓zr_46_2, ↓zr_50_0, ↓zr_50_1, ↓zr_54_0, ↓zr_54_2, ↓zr_54_3, ↓zr_54_5, ↓zr_54_6, ↓zr_54_11, ↓zr_54_13, ↓zr_54_14, ↓zr_55_0, ↓zr_55_1, ↓zr_64_0, ↓zr_64_1, ↓zr_67_0, ↓zr_67_2, ↓zr_67_3, ↓zr_67_5, ↓zr_67_6, ↓zr_67_11, ↓zr_67_13, ↓zr_67_14, ↓zr_68_0, ↓zr_68_1, ↓zr_77_0, ↓zr_77_1, ↓zr_80_2, ↓zr_80_3, ↓zr_80_4, ↓zr_80_5, ↓zr_80_6, ↓zr_80_7, ↓zr_80_9, ↓zr_80_10, ↓zr_80_12, ↓zr_80_22, ↓zr_80_24, ↓zr_80_25, ↓zr_80_27, ↓zr_80_28, ↓zr_80_31, ↓zr_80_32, ↓zr_80_33, ↓zr_80_35, ↓zr_80_36, ↓zr_80_37, ↓zr_80_41, ↓zr_80_42, ↓zr_80_43, ↓zr_80_44, ↓zr_80_46, ↓zr_80_47, ↓zr_80_48, ↓zr_80_49, ↓zr_80_55, ↓za_1, ↓zs_1, ↓zl_1, ↓za_4, ↓zs_4, ↓zl_4, ↓za_5, ↓zs_5, ↓zl_5, ↓za_6, ↓zs_6, ↓zl_6, ↓za_7, ↓zs_7, ↓zl_7, ↓za_8, ↓zs_8, ↓zl_8, ↓za_9, ↓zs_9, ↓zl_9, ↓za_10, ↓zs_10, ↓zl_10, ↓za_17, ↓zs_17, ↓zl_17, ↓za_18, ↓zs_18, ↓zl_18, ↓za_20, ↓zs_20, ↓zl_20, ↓za_21, ↓zs_21, ↓zl_21, ↓za_23, ↓zs_23, ↓zl_23, ↓za_24, ↓zs_24, ↓zl_24, ↓za_26, ↓zs_26, ↓zl_26, ↓za_27, ↓zs_27, ↓zl_27, ↓za_30, ↓zs_30, ↓zl_30, ↓za_31, ↓zs_31, ↓zl_31, ↓za_33, ↓zs_33, ↓zl_33, ↓za_34, ↓zs_34, ↓zl_34, ↓za_36, ↓zs_36, ↓zl_36, ↓za_37, ↓zs_37, ↓zl_37, ↓za_40, ↓zs_40, ↓zl_40, ↓za_41, ↓zs_41, ↓zl_41, ↓za_42, ↓zs_42, ↓zl_42, ↓za_43, ↓zs_43, ↓zl_43, ↓za_44, ↓zs_44, ↓zl_44, ↓za_47, ↓zs_47, ↓zl_47, ↓za_48, ↓zs_48, ↓zl_48, ↓za_49, ↓zs_49, ↓zl_49, ↓za_51, ↓zs_51, ↓zl_51, ↓za_52, ↓zs_52, ↓zl_52, ↓za_53, ↓zs_53, ↓zl_53, ↓za_56, ↓zs_56, ↓zl_56, ↓za_57, ↓zs_57, ↓zl_57, ↓za_58, ↓zs_58, ↓zl_58, ↓za_59, ↓zs_59, ↓zl_59, ↓za_60, ↓zs_60, ↓zl_60, ↓za_61, ↓zs_61, ↓zl_61, ↓za_62, ↓zs_62, ↓zl_62, ↓za_69, ↓zs_69, ↓zl_69, ↓za_70, ↓zs_70, ↓zl_70, ↓za_71, ↓zs_71, ↓zl_71, ↓za_72, ↓zs_72, ↓zl_72, ↓za_73, ↓zs_73, ↓zl_73, ↓za_74, ↓zs_74, ↓zl_74, ↓za_75, ↓zs_75, ↓zl_75, ↓za_81, ↓zs_81, ↓zl_81, ↓za_82, ↓zs_82, ↓zl_82, ↓za_83, ↓zs_83, ↓zl_83, ↓za_84, ↓zs_84, ↓zl_84, ↓za_85, ↓zs_85, ↓zl_85, ↓za_86, ↓zs_86, ↓zl_86, ↓za_87, ↓zs_87, ↓zl_87, ↓za_88, ↓zs_88, ↓zl_88, ↓za_89, ↓zs_89, ↓zl_89, ↓za_90, ↓zs_90, ↓zl_90, ↓za_91, ↓zs_91, ↓zl_91, ↓za_92, ↓zs_92, ↓zl_92, ↓za_93, ↓zs_93, ↓zl_93, ↓za_94, ↓zs_94, ↓zl_94, ↓za_95, ↓zs_95, ↓zl_95, ↓za_96, ↓zs_96, ↓zl_96, ↓za_97, ↓zs_97, ↓zl_97, ↓za_98, ↓zs_98, ↓zl_98, ↓za_99, ↓zs_99, ↓zl_99, ↓za_100, ↓zs_100, ↓zl_100, ↓za_101, ↓zs_101, ↓zl_101, ↓za_102, ↓zs_102, ↓zl_102, ↓za_103, ↓zs_103, ↓zl_103, ↓za_104, ↓zs_104, ↓zl_104, ↓za_105, ↓zs_105, ↓zl_105, ↓za_106, ↓zs_106, ↓zl_106, ↓za_107, ↓zs_107, ↓zl_107, ↓za_108, ↓zs_108, ↓zl_108, ↓za_109, ↓zs_109, ↓zl_109, hand_id, n01, n05, ob, Nat.zero_le, Nat.not_lt_zero, i10, i01, i12, i21, i20, i02, nl_le1, nl_le2, nl_lt1, nl_lt2, nl_eq1, nl_eq2, nn_le, nn_lt, nn_eq, nl_m1, m1_nl, z_lt, z_le, z_le2, z_lt2, z_eq, nI_l1, nI_l2, nI_l3, nI_l4, nI_add, nI_mul_, tn_n, tn_l, bI_0, bI_1, bI_z, bI_t, bI_f, Bool.false_eq_true, Bool.true_eq_false, eq_self, if_true, if_false, ↓reduceIte, reduceCtorEq, not_true_eq_false, not_false_eq_true, stI_s, stJ_s, ri_p, ri_k, ri_j, ri_1, ri_2, rj_i, rj_1, rj_2, rj_p, rj_k]
      exact Qy.ret (Eqv.refl h2)
