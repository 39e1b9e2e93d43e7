/-! the call spoilt -/
theorem or_sub {a a' x x' : Int32} (h : a &&& (a' ^^^ -1) = 0) (h2 : x &&& (x' ^^^ -1) = 0) : (a ||| x) &&& ((a' ||| x') ^^^ -1) = 0 := bvI fun i hi => by
  have h1 := bit_of h i hi
  have h3 := bit_of h2 i hi
  simp only [Int32.toBitVec_and, Int32.toBitVec_or, Int32.toBitVec_xor, m1_bv, BitVec.getLsbD_and, BitVec.getLsbD_or, BitVec.getLsbD_xor, BitVec.getLsbD_allOnes, hi, decide_true, Bool.xor_true]
  rw [show (0 : Int32).toBitVec.getLsbD i = false from BitVec.getLsbD_zero]
  revert h1 h3
  cases a.toBitVec.getLsbD i <;> cases a'.toBitVec.getLsbD i <;> cases x.toBitVec.getLsbD i <;> cases x'.toBitVec.getLsbD i <;> simp
theorem bits_sub {n : Nat} {f g : Nat → Bool} (h : ∀ k, k < n → f k = true → g k = true) : bits n f &&& (bits n g ^^^ -1) = 0 := by
  have e : ∀ (m k : Nat) (a a' : Int32), k + m = n → a &&& (a' ^^^ -1) = 0 → fo (fun s k => s ||| (if f k then bt k else 0)) k m a &&& (fo (fun s k => s ||| (if g k then bt k else 0)) k m a' ^^^ -1) = 0 := by
    intro m
    induction m with
    | zero => exact fun k a a' _ h => h
    | succ m ih =>
      intro k a a' hk ha
      refine ih (k + 1) _ _ (by omega) (or_sub ha ?_)
      cases ef : f k with
      | false => rw [if_neg (by decide), Int32.zero_and]
      | true => rw [if_pos rfl, if_pos (h k (by omega) ef), and_self0]
  exact e n 0 0 0 (by omega) (by decide)
def hmw (b : Nat) (x : Int32) : Int32 := if x = 0 then on7 (nI b) else if x = 1 then nI b else -1
theorem q_hmw {h : AH} {b : Nat} (hb : b < 128) (x : Int32) : f_X10_howManyOrWho S_1 (nI b) x h = some (hmw b x, h) := by
  unfold f_X10_howManyOrWho hmw
  rw [if_neg (show ¬ nI b = -1 by rw [nl_m1 (by omega)]; exact id)]
  by_cases e : x = 0
  · rw [if_pos e, if_pos e, bs_ (x_bitCount S_1 h hb)]
  · rw [if_neg e, if_neg e]
    by_cases e1 : x = 1
    · rw [if_pos e1, if_pos e1]
    · rw [if_neg e1, if_neg e1]
theorem sp_key (r : Nat → Int32) {N S A : Nat} (hN : N = 128) (hS : S < 128) (sub : nI A &&& (nI S ^^^ -1) = 0) : ∃ b, b < 128 ∧ fo (seS (spP r (nI S) (nI A))) 0 N none = some b ∧ fo (seS (spP r (nI S) (nI A))) 0 (S + 1) none = some b := by
  have no : fo (seS (spP r (nI S) (nI A))) 0 N none = fo (seS (spP r (nI S) (nI A))) 0 (S + 1) none := by
    obtain ⟨d, hd⟩ : ∃ d, N = (S + 1) + d := ⟨N - (S + 1), by omega⟩
    rw [hd, se_add]
    refine se_no _ _ _ fun z h1 h2 => ?_
    unfold spP
    rw [decide_eq_false (fun c => by
      have := sub_le (show z < 128 by omega) hS c
      omega), Bool.false_and]
  have so : fo (seS (spP r (nI S) (nI A))) 0 N none ≠ none := by
    refine se_some _ _ _ (Or.inr ⟨S, by omega, by omega, ?_⟩)
    unfold spP
    rw [decide_eq_true (and_self0 _), and_self0, sub, Bool.true_and]
    have ca : caS r 0 0 = false := decide_eq_false fun z => absurd z.2 (by decide)
    rw [ca]
    rfl
  cases e : fo (seS (spP r (nI S) (nI A))) 0 N none with
  | none => exact absurd e so
  | some b => exact ⟨b, se_lt (N := 128) N 0 none (by omega) (fun b z => by cases z) b e, rfl, no.symm.trans e⟩
theorem q_fewN {h : AH} {r : Nat → Int32} {W Y S A N : Nat} {wn : Bool} (hN : N = 128) (hR : RoX h 2 r) (hS : S < 128) (hA : A < 128) (s2 : h.2.1 35 2 = nI S) (s3 : h.2.1 35 3 = nI A) : f_X1_fewest S_1 35 (nI W) (nI Y) (bI wn) h = some (opI (fo (seS (feP r (nI W) (nI Y) (nI S) (nI A) wn)) 0 N none), h) := by
  rw [hN]
  exact q_fewest hR hS hA s2 s3
theorem q_spoilt {h : AH} {r : Nat → Int32} {p n nb nm N S A b m : Nat} {f : Nat → Cl} (ct : Ct h 3 r p n f nb nm) (hN : N = 128) (hS : S < 128) (hA : A < 128) (eS : setS r n f nb m = nI S) (eA : setA r n f nb m = nI A) (hm : m < nm) (hb : b < 128) (d1 : fo (seS (spP r (nI S) (nI A))) 0 N none = some b) (y : Int32) : Qy PW0 h (f_X10_spoilt S_1 0 (nI m) y h) (hmw b y) := by
  have h6 := ct.2.2.2.2.2.2.2.2
  have ex := inb_n (by omega) hm
  obtain ⟨h1, e1, r1, v1, w1⟩ := ct.poll (m := m) (by omega) ct.2.2.2.1.2.1 ct.2.2.2.1.2.2 ct.2.2.2.2.1
  have k1 := ct.x e1
  have qf := q_fewN (h := h1) hN (W := S) (Y := A) (wn := false) k1.2.2.1 hS hA (v1.trans eS) (w1.trans eA)
  rw [fe_sp, d1] at qf
  replace qf : f_X1_fewest S_1 35 (nI S) (nI A) (0 : Int32) h1 = some (nI b, h1) := qf
  refine ⟨h1, ?_, e1.mono PX_W0⟩
  unfold f_X10_spoilt
  rw [bs_ (yr_0_2 h), bs_ (ck_2 h), bs_ (q_hasM ct (nI m)), ex]
  dsimp only
  rw [if_neg (show ¬ bI true = 0 by decide), bs_ (yr_0_10 h), bs_ (yr_0_2 h), bs_ (yr_2_0 h), bs_ (yr_0_2 h), bs_ (ck_2 h), bs_ ct.lf]
  dsimp only
  rw [bs_ (ck_35 h), bs_ r1]
  dsimp only
  rw [bs_ (yr_0_10 h1), bs_ (yr_0_10 h1), bs_ (yi_35 h1 2), v1, eS, bs_ (yr_0_10 h1), bs_ (yi_35 h1 3), w1, eA, bs_ (ck_35 h1), bs_ qf]
  dsimp only
  rw [bs_ (q_hmw hb y)]
theorem m_spoilt {h2 : AH} {n nb nm S A b m : Nat} {f : Nat → Cl} (c2 : CM h2 n f nb nm) (hS : S < 128) (eS : setS (h2.2.1 82) n f nb m = nI S) (eA : setA (h2.2.1 82) n f nb m = nI A) (hm : m < nm) (d2 : fo (seS (spP (h2.2.1 82) (nI S) (nI A))) 0 (S + 1) none = some b) (y : Int32) : Qy PW0 h2 (f_X11_spoilt S_1 80 (nI m) y h2) (hmw b y) := by
  have h7 := c2.2.2.2.1
  have h6 := c2.2.2.2.2.2
  have ex := inb_n (by omega) hm
  obtain ⟨h0, hh0⟩ : ∃ h0, h0 = stI h2 80 0 0 := ⟨_, rfl⟩
  have r0 : h0.2.1 82 = h2.2.1 82 := by rw [hh0]; exact funext fun j => ri_p (by decide)
  have c0 : CM h0 n f nb nm := c2.z r0 (by rw [hh0]; exact ri_k (by decide))
  have E0 : Eqv PW0 h2 h0 := by rw [hh0]; exact (Eqv.refl h2).si rfl
  obtain ⟨h3, r3, e3⟩ := m_sitting (nb := nb) (show m < 6 by omega) h0 c0.1 c0.2.1 c0.2.2.1 h7
  have c3 := c0.my (e3.mono PT_Mm) (by rw [e3.row PT_82]; exact Ag.refl _)
  obtain ⟨h4, r4, e4⟩ := m_ayes (nb := nb) (show m < 6 by omega) h3 c3.1 c3.2.1 c3.2.2.1 h7
  rw [e3.row PT_82, r0, show bits nb (fun b => ayS (h2.2.1 82) n f b m) = nI A from eA] at r4
  rw [r0, show bits nb (fun b => siS (h2.2.1 82) n f b m) = nI S from eS] at r3
  unfold f_X11_spoilt
  rw [bs_ (show pI S_1 h2 80 11 0 (0 : Int32) = some (stI h2 80 0 0) from rfl), ← hh0, bs_ (ck_80 h0), bs_ (mi_M c0 (nI m)), ex]
  dsimp only
  rw [if_neg (show ¬ bI true = 0 by decide), bs_ (xin_0_1 y h0)]
  dsimp only
  cases ey : rgb y 0 1 with
  | false =>
    have y0 : ¬ y = 0 := fun z => by
      rw [z] at ey
      exact absurd ey (by decide)
    have y1 : ¬ y = 1 := fun z => by
      rw [z] at ey
      exact absurd ey (by decide)
    have : hmw b y = -1 := by unfold hmw; rw [if_neg y0, if_neg y1]
    rw [this, if_pos (show bI false = 0 from rfl)]
    exact ⟨h0, rfl, E0⟩
  | true =>
    have ql := m_spL (h := h4) (A := A) y hS (S + 1) 0 FU none (by omega) (by unfold FU; omega)
    rw [e4.row PT_82, e3.row PT_82, r0, d2] at ql
    rw [if_neg (show ¬ bI true = 0 by decide), bs_ (ck_80 h0), bs_ r3]
    dsimp only
    rw [bs_ (ck_80 h3), bs_ r4]
    dsimp only
    rw [bs_ (show f_X11_spoilt_l49 S_1 FU 80 y (nI S) (nI A) (100000000 : Int32) (0 : Int32) (0 : Int32) h4 = _ from ql)]
    dsimp only
    obtain ⟨j, hj, rfl⟩ := rgb_of (n := 1) (by decide) ey
    refine ⟨h4, ?_, E0.trans ((e3.trans e4).mono PT_W0)⟩
    by_cases j0 : j = 0
    · subst j0
      have : hmw b (nI 0) = on7 (nI b) := if_pos rfl
      rw [this, if_pos (show nI 0 = 0 from rfl)]
      rfl
    · have : j = 1 := by omega
      subst this
      have : hmw b (nI 1) = nI b := (if_neg (show ¬ nI 1 = 0 by decide)).trans (if_pos rfl)
      rw [this, if_neg (show ¬ nI 1 = 0 by decide)]
      rfl
theorem bo_spoilt {h : AH} (k : Rel h) (x y : Int32) : Bo h (f_X10_spoilt S_1 0 x y) (f_X11_spoilt S_1 80 x y) := by
  obtain ⟨st, nb, nm, nh, nl, k0⟩ := id k
  obtain ⟨p, n, f, ct, cm⟩ := k0.law
  have h7 := cm.2.2.2.1
  have h6 := cm.2.2.2.2.2
  cases ex : inb x nm with
  | false =>
    refine both_q2 (v := -1) (fun _ => rfl) k ?_ (fun h2 e2 => ?_)
    · unfold f_X10_spoilt
      simp (disch := first | rfl | decide | omega | (simp (disch := first | omega | decide) only [nI_l1, nI_l2, nI_l3, nI_l4, nI_add, nI_mul_]; exact ix_n (by omega) (by omega)) | (exact ix_n (by omega) (by omega)) | (exact ix_l (by decide) (by decide)) | assumption) only [↓bs_ (q_hasM ct x), ex, ↓zI, ↓zP, ↓zZ, ↓zC, ↓zJ, ↓zQ, ↓zE, ↓zK, ↓zF, ↓zD, ↓zr_0_0, ↓zr_0_2, ↓zr_0_3, ↓zr_0_4, ↓zr_0_5, ↓zr_0_6, ↓zr_0_7, ↓zr_0_8, ↓zr_0_9, ↓zr_0_10, ↓zr_0_11, ↓zr_0_12, ↓zr_0_13, ↓zr_2_0, ↓zr_2_2, ↓zr_2_3, ↓zr_2_5, ↓zr_2_6, ↓zr_2_11, ↓zr_2_13, ↓zr_2_14, ↓zr_3_0, ↓zr_3_1, ↓zr_12_0, ↓zr_12_1, ↓zr_16_0, ↓zr_16_1, ↓zr_19_0, ↓zr_19_1, ↓zr_22_0, ↓zr_22_1, ↓zr_25_0, ↓zr_25_1, ↓zr_28_0, ↓zr_29_0, ↓zr_29_1, ↓zr_32_0, ↓zr_32_1, ↓zr_35_0, ↓zr_35_1, ↓zr_35_4, ↓zr_35_5, ↓zr_38_0, ↓zr_38_1, ↓zr_38_2, ↓zr_38_3, ↓zr_38_4, ↓zr_39_0, ↓zr_39_1, ↓zr_45_0, ↓zr_45_1, ↓zr_46_0, ↓zr_46_1, ↓zr_46_2, ↓zr_50_0, ↓zr_50_1, ↓zr_54_0, ↓zr_54_2, ↓zr_54_3, ↓zr_54_5, ↓zr_54_6, ↓zr_54_11, ↓zr_54_13, ↓zr_54_14, ↓zr_55_0, ↓zr_55_1, ↓zr_64_0, ↓zr_64_1, ↓zr_67_0, ↓zr_67_2, ↓zr_67_3, ↓zr_67_5, ↓zr_67_6, ↓zr_67_11, ↓zr_67_13, ↓zr_67_14, ↓zr_68_0, ↓zr_68_1, ↓zr_77_0, ↓zr_77_1, ↓zr_80_2, ↓zr_80_3, ↓zr_80_4, ↓zr_80_5, ↓zr_80_6, ↓zr_80_7, ↓zr_80_9, ↓zr_80_10, ↓zr_80_12, ↓zr_80_22, ↓zr_80_24, ↓zr_80_25, ↓zr_80_27, ↓zr_80_28, ↓zr_80_31, ↓zr_80_32, ↓zr_80_33, ↓zr_80_35, ↓zr_80_36, ↓zr_80_37, ↓zr_80_41, ↓zr_80_42, ↓zr_80_43, ↓zr_80_44, ↓zr_80_46, ↓zr_80_47, ↓zr_80_48, ↓zr_80_49, ↓zr_80_55, ↓za_1, ↓zs_1, ↓zl_1, ↓za_4, ↓zs_4, ↓zl_4, ↓za_5, ↓zs_5, ↓zl_5, ↓za_6, ↓zs_6, ↓zl_6, ↓za_7, ↓zs_7, ↓zl_7, ↓za_8, ↓zs_8, ↓zl_8, ↓za_9, ↓zs_9, ↓zl_9, ↓za_10, ↓zs_10, ↓zl_10, ↓za_17, ↓zs_17, ↓zl_17, ↓za_18, ↓zs_18, ↓zl_18, ↓za_20, ↓zs_20, ↓zl_20, ↓za_21, ↓zs_21, ↓zl_21, ↓za_23, ↓zs_23, ↓zl_23, ↓za_24, ↓zs_24, ↓zl_24, ↓za_26, ↓zs_26, ↓zl_26, ↓za_27, ↓zs_27, ↓zl_27, ↓za_30, ↓zs_30, ↓zl_30, ↓za_31, ↓zs_31, ↓zl_31, ↓za_33, ↓zs_33, ↓zl_33, ↓za_34, ↓zs_34, ↓zl_34, ↓za_36, ↓zs_36, ↓zl_36, ↓za_37, ↓zs_37, ↓zl_37, ↓za_40, ↓zs_40, ↓zl_40, ↓za_41, ↓zs_41, ↓zl_41, ↓za_42, ↓zs_42, ↓zl_42, ↓za_43, ↓zs_43, ↓zl_43, ↓za_44, ↓zs_44, ↓zl_44, ↓za_47, ↓zs_47, ↓zl_47, ↓za_48, ↓zs_48, ↓zl_48, ↓za_49, ↓zs_49, ↓zl_49, ↓za_51, ↓zs_51, ↓zl_51, ↓za_52, ↓zs_52, ↓zl_52, ↓za_53, ↓zs_53, ↓zl_53, ↓za_56, ↓zs_56, ↓zl_56, ↓za_57, ↓zs_57, ↓zl_57, ↓za_58, ↓zs_58, ↓zl_58, ↓za_59, ↓zs_59, ↓zl_59, ↓za_60, ↓zs_60, ↓zl_60, ↓za_61, ↓zs_61, ↓zl_61, ↓za_62, ↓zs_62, ↓zl_62, ↓za_69, ↓zs_69, ↓zl_69, ↓za_70, ↓zs_70, ↓zl_70, ↓za_71, ↓zs_71, ↓zl_71, ↓za_72, ↓zs_72, ↓zl_72, ↓za_73, ↓zs_73, ↓zl_73, ↓za_74, ↓zs_74, ↓zl_74, ↓za_75, ↓zs_75, ↓zl_75, ↓za_81, ↓zs_81, ↓zl_81, ↓za_82, ↓zs_82, ↓zl_82, ↓za_83, ↓zs_83, ↓zl_83, ↓za_84, ↓zs_84, ↓zl_84, ↓za_85, ↓zs_85, ↓zl_85, ↓za_86, ↓zs_86, ↓zl_86, ↓za_87, ↓zs_87, ↓zl_87, ↓za_88, ↓zs_88, ↓zl_88, ↓za_89, ↓zs_89, ↓zl_89, ↓za_90, ↓zs_90, ↓zl_90, ↓za_91, ↓zs_91, ↓zl_91, ↓za_92, ↓zs_92, ↓zl_92, ↓za_93, ↓zs_93, ↓zl_93, ↓za_94, ↓zs_94, ↓zl_94, ↓za_95, ↓zs_95, ↓zl_95, ↓za_96, ↓zs_96, ↓zl_96, ↓za_97, ↓zs_97, ↓zl_97, ↓za_98, ↓zs_98, ↓zl_98, ↓za_99, ↓zs_99, ↓zl_99, ↓za_100, ↓zs_100, ↓zl_100, ↓za_101, ↓zs_101, ↓zl_101, ↓za_102, ↓zs_102, ↓zl_102, ↓za_103, ↓zs_103, ↓zl_103, ↓za_104, ↓zs_104, ↓zl_104, ↓za_105, ↓zs_105, ↓zl_105, ↓za_106, ↓zs_106, ↓zl_106, ↓za_107, ↓zs_107, ↓zl_107, ↓za_108, ↓zs_108, ↓zl_108, ↓za_109, ↓zs_109, ↓zl_109, hand_id, n01, n05, ob, Nat.zero_le, Nat.not_lt_zero, i10, i01, i12, i21, i20, i02, nl_le1, nl_le2, nl_lt1, nl_lt2, nl_eq1, nl_eq2, nn_le, nn_lt, nn_eq, nl_m1, m1_nl, z_lt, z_le, z_le2, z_lt2, z_eq, nI_l1, nI_l2, nI_l3, nI_l4, nI_add, nI_mul_, tn_n, tn_l, bI_0, bI_1, bI_z, bI_t, bI_f, Bool.false_eq_true, Bool.true_eq_false, eq_self, if_true, if_false, ↓reduceIte, reduceCtorEq, not_true_eq_false, not_false_eq_true, stI_s, stJ_s, ri_p, ri_k, ri_j, ri_1, ri_2, rj_i, rj_1, rj_2, rj_p, rj_k]
      exact Qy.ret (Eqv.refl h)
    · simp (disch := first | rfl | decide | omega | (simp (disch := first | omega | decide) only [nI_l1, nI_l2, nI_l3, nI_l4, nI_add, nI_mul_]; exact ix_n (by omega) (by omega)) | (exact ix_n (by omega) (by omega)) | (exact ix_l (by decide) (by decide)) | assumption) only [↓bs_ (mi_M (cm.w e2) x), ex, ↓zI, ↓zP, ↓zZ, ↓zC, ↓zJ, ↓zQ, ↓zE, ↓zK, ↓zF, ↓zD, ↓zr_0_0, ↓zr_0_2, ↓zr_0_3, ↓zr_0_4, ↓zr_0_5, ↓zr_0_6, ↓zr_0_7, ↓zr_0_8, ↓zr_0_9, ↓zr_0_10, ↓zr_0_11, ↓zr_0_12, ↓zr_0_13, ↓zr_2_0, ↓zr_2_2, ↓zr_2_3, ↓zr_2_5, ↓zr_2_6, ↓zr_2_11, ↓zr_2_13, ↓zr_2_14, ↓zr_3_0, ↓zr_3_1, ↓zr_12_0, ↓zr_12_1, ↓zr_16_0, ↓zr_16_1, ↓zr_19_0, ↓zr_19_1, ↓zr_22_0, ↓zr_22_1, ↓zr_25_0, ↓zr_25_1, ↓zr_28_0, ↓zr_29_0, ↓zr_29_1, ↓zr_32_0, ↓zr_32_1, ↓zr_35_0, ↓zr_35_1, ↓zr_35_4, ↓zr_35_5, ↓zr_38_0, ↓zr_38_1, ↓zr_38_2, ↓zr_38_3, ↓zr_38_4, ↓zr_39_0, ↓zr_39_1, ↓zr_45_0, ↓zr_45_1, ↓zr_46_0, ↓zr_46_1, ↓zr_46_2, ↓zr_50_0, ↓zr_50_1, ↓zr_54_0, ↓zr_54_2, ↓zr_54_3, ↓zr_54_5, ↓zr_54_6, ↓zr_54_11, ↓zr_54_13, ↓zr_54_14, ↓zr_55_0, ↓zr_55_1, ↓zr_64_0, ↓zr_64_1, ↓zr_67_0, ↓zr_67_2, ↓zr_67_3, ↓zr_67_5, ↓zr_67_6, ↓zr_67_11, ↓zr_67_13, ↓zr_67_14, ↓zr_68_0, ↓zr_68_1, ↓zr_77_0, ↓zr_77_1, ↓zr_80_2, ↓zr_80_3, ↓zr_80_4, ↓zr_80_5, ↓zr_80_6, ↓zr_80_7, ↓zr_80_9, ↓zr_80_10, ↓zr_80_12, ↓zr_80_22, ↓zr_80_24, ↓zr_80_25, ↓zr_80_27, ↓zr_80_28, ↓zr_80_31, ↓zr_80_32, ↓zr_80_33, ↓zr_80_35, ↓zr_80_36, ↓zr_80_37, ↓zr_80_41, ↓zr_80_42, ↓zr_80_43, ↓zr_80_44, ↓zr_80_46, ↓zr_80_47, ↓zr_80_48, ↓zr_80_49, ↓zr_80_55, ↓za_1, ↓zs_1, ↓zl_1, ↓za_4, ↓zs_4, ↓zl_4, ↓za_5, ↓zs_5, ↓zl_5, ↓za_6, ↓zs_6, ↓zl_6, ↓za_7, ↓zs_7, ↓zl_7, ↓za_8, ↓zs_8, ↓zl_8, ↓za_9, ↓zs_9, ↓zl_9, ↓za_10, ↓zs_10, ↓zl_10, ↓za_17, ↓zs_17, ↓zl_17, ↓za_18, ↓zs_18, ↓zl_18, ↓za_20, ↓zs_20, ↓zl_20, ↓za_21, ↓zs_21, ↓zl_21, ↓za_23, ↓zs_23, ↓zl_23, ↓za_24, ↓zs_24, ↓zl_24, ↓za_26, ↓zs_26, ↓zl_26, ↓za_27, ↓zs_27, ↓zl_27, ↓za_30, ↓zs_30, ↓zl_30, ↓za_31, ↓zs_31, ↓zl_31, ↓za_33, ↓zs_33, ↓zl_33, ↓za_34, ↓zs_34, ↓zl_34, ↓za_36, ↓zs_36, ↓zl_36, ↓za_37, ↓zs_37, ↓zl_37, ↓za_40, ↓zs_40, ↓zl_40, ↓za_41, ↓zs_41, ↓zl_41, ↓za_42, ↓zs_42, ↓zl_42, ↓za_43, ↓zs_43, ↓zl_43, ↓za_44, ↓zs_44, ↓zl_44, ↓za_47, ↓zs_47, ↓zl_47, ↓za_48, ↓zs_48, ↓zl_48, ↓za_49, ↓zs_49, ↓zl_49, ↓za_51, ↓zs_51, ↓zl_51, ↓za_52, ↓zs_52, ↓zl_52, ↓za_53, ↓zs_53, ↓zl_53, ↓za_56, ↓zs_56, ↓zl_56, ↓za_57, ↓zs_57, ↓zl_57, ↓za_58, ↓zs_58, ↓zl_58, ↓za_59, ↓zs_59, ↓zl_59, ↓za_60, ↓zs_60, ↓zl_60, ↓za_61, ↓zs_61, ↓zl_61, ↓za_62, ↓zs_62, ↓zl_62, ↓za_69, ↓zs_69, ↓zl_69, ↓za_70, ↓zs_70, ↓zl_70, ↓za_71, ↓zs_71, ↓zl_71, ↓za_72, ↓zs_72, ↓zl_72, ↓za_73, ↓zs_73, ↓zl_73, ↓za_74, ↓zs_74, ↓zl_74, ↓za_75, ↓zs_75, ↓zl_75, ↓za_81, ↓zs_81, ↓zl_81, ↓za_82, ↓zs_82, ↓zl_82, ↓za_83, ↓zs_83, ↓zl_83, ↓za_84, ↓zs_84, ↓zl_84, ↓za_85, ↓zs_85, ↓zl_85, ↓za_86, ↓zs_86, ↓zl_86, ↓za_87, ↓zs_87, ↓zl_87, ↓za_88, ↓zs_88, ↓zl_88, ↓za_89, ↓zs_89, ↓zl_89, ↓za_90, ↓zs_90, ↓zl_90, ↓za_91, ↓zs_91, ↓zl_91, ↓za_92, ↓zs_92, ↓zl_92, ↓za_93, ↓zs_93, ↓zl_93, ↓za_94, ↓zs_94, ↓zl_94, ↓za_95, ↓zs_95, ↓zl_95, ↓za_96, ↓zs_96, ↓zl_96, ↓za_97, ↓zs_97, ↓zl_97, ↓za_98, ↓zs_98, ↓zl_98, ↓za_99, ↓zs_99, ↓zl_99, ↓za_100, ↓zs_100, ↓zl_100, ↓za_101, ↓zs_101, ↓zl_101, ↓za_102, ↓zs_102, ↓zl_102, ↓za_103, ↓zs_103, ↓zl_103, ↓za_104, ↓zs_104, ↓zl_104, ↓za_105, ↓zs_105, ↓zl_105, ↓za_106, ↓zs_106, ↓zl_106, ↓za_107, ↓zs_107, ↓zl_107, ↓za_108, ↓zs_108, ↓zl_108, ↓za_109, ↓zs_109, ↓zl_109, hand_id, n01, n05, ob, Nat.zero_le, Nat.not_lt_zero, i10, i01, i12, i21, i20, i02, nl_le1, nl_le2, nl_lt1, nl_lt2, nl_eq1, nl_eq2, nn_le, nn_lt, nn_eq, nl_m1, m1_nl, z_lt, z_le, z_le2, z_lt2, z_eq, nI_l1, nI_l2, nI_l3, nI_l4, nI_add, nI_mul_, tn_n, tn_l, bI_0, bI_1, bI_z, bI_t, bI_f, Bool.false_eq_true, Bool.true_eq_false, eq_self, if_true, if_false, ↓reduceIte, reduceCtorEq, not_true_eq_false, not_false_eq_true, stI_s, stJ_s, ri_p, ri_k, ri_j, ri_1, ri_2, rj_i, rj_1, rj_2, rj_p, rj_k]
      exact Qy.ret (Eqv.refl h2)
  | true =>
    obtain ⟨m, hm, rfl⟩ := inb_of (by omega) ex
    obtain ⟨S, hS, eS⟩ := bits_lt h7 (fun b => siS (h.2.1 82) n f b m)
    obtain ⟨A, hA, eA⟩ := bits_lt h7 (fun b => ayS (h.2.1 82) n f b m)
    obtain ⟨N, hN⟩ : ∃ N, N = 128 := ⟨_, rfl⟩
    obtain ⟨b, hb, d1, d2⟩ := sp_key (h.2.1 82) hN hS (eS ▸ eA ▸ bits_sub fun j hj z => by
      unfold ayS at z
      rw [Bool.and_eq_true] at z
      exact z.1 : nI A &&& (nI S ^^^ -1) = 0)
    refine both_q (v := hmw b y) k (q_spoilt ct hN hS hA eS eA hm hb d1 y) (fun h2 e2 => ?_)
    have c2 := cm.w e2
    have r2 := e2.w82
    exact m_spoilt c2 hS (by rw [r2]; exact eS) (by rw [r2]; exact eA) hm (by rw [r2]; exact d2) y
