/-! what MAY be: one turn -/
theorem mvN_ag (r : Nat → Int32) (n : Nat) (f : Nat → Cl) {nb nm : Nat} (h6 : nm ≤ 6) (x y : Int32) : Ag r (mvN r n f nb nm x y) := by
  unfold mvN
  by_cases e : (inb x nm && inb y nb && mvC r n f nb x.toNatClampNeg y.toNatClampNeg) = true
  · rw [if_pos e]
    rw [Bool.and_eq_true, Bool.and_eq_true] at e
    obtain ⟨m, hm, rfl⟩ := inb_of (by omega) e.1.1
    rw [tn_n (by omega)]
    exact (Ag.refl r).set (by omega)
  · rw [if_neg e]; exact Ag.refl r
theorem dvR_ag (r : Nat → Int32) (n : Nat) (f : Nat → Cl) {nb m : Nat} (h6 : m < 6) : Ag r (dvR r n f nb m) := ((Ag.refl r).set (by omega)).set (by omega)
theorem dvN_ag (r : Nat → Int32) (n : Nat) (f : Nat → Cl) {nb nm : Nat} (h6 : nm ≤ 6) (x : Int32) : Ag r (dvN r n f nb nm x) := by
  unfold dvN
  by_cases e : (inb x nm && cdS r n f nb x.toNatClampNeg) = true
  · rw [if_pos e]
    rw [Bool.and_eq_true] at e
    obtain ⟨m, hm, rfl⟩ := inb_of (by omega) e.1
    rw [tn_n (by omega)]
    exact dvR_ag r n f (by omega)
  · rw [if_neg e]; exact Ag.refl r
theorem flN_ag (r : Nat → Int32) {nb : Nat} (h7 : nb ≤ 7) (x t : Int32) : Ag r (flN r nb x t) := by
  unfold flN
  by_cases e : (okT t && (inb x nb && decide (r (10 + x.toNatClampNeg) ≠ t))) = true
  · rw [if_pos e]
    rw [Bool.and_eq_true, Bool.and_eq_true] at e
    obtain ⟨b, hb, rfl⟩ := inb_of h7 e.2.1
    rw [tn_n (by omega)]
    exact (Ag.refl r).set (by omega)
  · rw [if_neg e]; exact Ag.refl r
theorem psR_ag (r : Nat → Int32) {nm : Nat} (h6 : nm ≤ 6) : Ag r (psR r nm) := fun j h1 h2 => by
  unfold psR
  rw [if_neg h1, if_neg (by omega), if_neg (by omega)]
theorem psN_ag (r : Nat → Int32) {nm : Nat} (h6 : nm ≤ 6) : Ag r (psN r nm) := by
  unfold psN
  by_cases e : r 5 < 999
  · rw [if_pos e]; exact psR_ag r h6
  · rw [if_neg e]; exact Ag.refl r
def nx4 (a : Nat) : Nat := nxt (nxt (nxt (nxt a)))
def mayN (r : Nat → Int32) (n : Nat) (f : Nat → Cl) (nb nm a : Nat) : Nat → Int32 :=
  if nx4 a % 4 = 0 then mvN r n f nb nm (nI (nxt (nxt a) % nm)) (nI (nxt a % nb))
  else if nx4 a % 4 = 1 then dvN r n f nb nm (nI (nxt (nxt a) % nm))
  else if nx4 a % 4 = 2 then flN r nb (nI (nxt a % nb)) (nI (nxt (nxt (nxt a)) % 20))
  else psN r nm
theorem mayN_ag (r : Nat → Int32) (n : Nat) (f : Nat → Cl) {nb nm : Nat} (h7 : nb ≤ 7) (h6 : nm ≤ 6) (a : Nat) : Ag r (mayN r n f nb nm a) := by
  unfold mayN
  by_cases e0 : nx4 a % 4 = 0
  · rw [if_pos e0]; exact mvN_ag r n f h6 _ _
  · rw [if_neg e0]
    by_cases e1 : nx4 a % 4 = 1
    · rw [if_pos e1]; exact dvN_ag r n f h6 _
    · rw [if_neg e1]
      by_cases e2 : nx4 a % 4 = 2
      · rw [if_pos e2]; exact flN_ag r h7 _ _
      · rw [if_neg e2]; exact psN_ag r h6
def PMy (p j : Nat) : Bool := PSt 29 p j || decide (p = 28 ∧ j = 3)
theorem PSt_My (p j : Nat) (h : PSt 29 p j = true) : PMy p j = true := by unfold PMy; rw [h]; rfl
theorem PMy_no {p j : Nat} (h : p < 28 ∨ 35 < p) : PMy p j = false := by
  unfold PMy PSt
  rw [PX_no (by omega), decide_eq_false (by omega), decide_eq_false (by omega)]
  rfl
theorem PMy_o (q j : Nat) (h : q = 2 ∨ 6 ≤ q ∧ q ≤ 10 ∨ LawP q) : PMy q j = false := PMy_no (by unfold LawP at h; omega)
theorem q_mstep {h : AH} {r : Nat → Int32} {p n nb nm a : Nat} {f : Nat → Cl} (ct : Ct h 29 r p n f nb nm) (hnb : 0 < nb) (hnm : 0 < nm) (hc : ∀ m, m < nm → 1 ≤ r (72 + m) ∧ r (72 + m) ≤ 9) (f1 : h.2.1 28 1 = nI nb) (f2 : h.2.1 28 2 = nI nm) (f3 : h.2.1 28 3 = nI a) (ha : a < 1000003) : ∃ h', f_X2_step S_1 28 35 h = some ((), h') ∧ Eqv PMy h h' ∧ Ct h' 29 (mayN r n f nb nm a) p n f nb nm ∧ h'.2.1 28 3 = nI (nx4 a) := by
  have h7 := ct.2.2.2.2.2.2.1
  have h6 := ct.2.2.2.2.2.2.2.2
  obtain ⟨g, hg⟩ : ∃ g, g = stI (stI (stI (stI h 28 3 (nI (nxt a))) 28 3 (nI (nxt (nxt a)))) 28 3 (nI (nxt (nxt (nxt a))))) 28 3 (nI (nx4 a)) := ⟨_, rfl⟩
  have E : Eqv PMy h g := by
    rw [hg]
    exact ((((Eqv.refl h).si rfl).si rfl).si rfl).si rfl
  have ro : ∀ q, q ≠ 28 → g.2.1 q = h.2.1 q := fun q hq => by
    rw [hg]
    funext j
    rw [ri_p hq, ri_p hq, ri_p hq, ri_p hq]
  have cg : Ct g 29 r p n f nb nm := ct.mv (Or.inr (Or.inr (Or.inl rfl))) E PMy_o (ct.2.1.rows (ro _ (by decide)) (ro _ (by decide)) (ro _ (by decide))) (Ag.refl r)
  have g3 : g.2.1 28 3 = nI (nx4 a) := by rw [hg, stI_s]
  have fin : ∀ (X : AH → Option (Int32 × AH)) (v : Int32) (r' : Nat → Int32), Ag r r' → (∃ h', X g = some (v, h') ∧ Eqv (PSt 29) g h' ∧ StX h' 29 r') → ∃ h', ((X g).bind fun z => match z with | (_, h') => some ((), h')) = some ((), h') ∧ Eqv PMy h h' ∧ Ct h' 29 r' p n f nb nm ∧ h'.2.1 28 3 = nI (nx4 a) := fun X v r' ag ⟨h', x1, x2, x3⟩ => by
    rw [bs_ x1]
    exact ⟨h', rfl, E.trans (x2.mono PSt_My), cg.mv (Or.inr (Or.inr (Or.inl rfl))) (x2.mono PSt_My) PMy_o x3 ag, (x2.i 28 3 rfl).trans g3⟩
  unfold f_X2_step
  rw [bs_ (yi_28 h 1), f1, bs_ (ck_28 h), bs_ (q_draw f3 ha ⟨hnb, by omega⟩)]
  dsimp only
  rw [bs_ (yi_28 _ 2), show (stI h 28 3 (nI (nxt a))).2.1 28 2 = nI nm from (ri_k (by decide)).trans f2, bs_ (ck_28 _), bs_ (q_draw (stI_s _ _ _ _) (nxt_lt _) ⟨hnm, by omega⟩)]
  dsimp only
  rw [bs_ (ck_28 _), bs_ (show f_X2_draw S_1 28 (20 : Int32) _ = _ from q_draw (k := 20) (stI_s _ _ _ _) (nxt_lt _) (by decide))]
  dsimp only
  rw [bs_ (ck_28 _), bs_ (show f_X2_draw S_1 28 (4 : Int32) _ = _ from q_draw (k := 4) (stI_s _ _ _ _) (nxt_lt _) (by decide))]
  dsimp only
  rw [show nxt (nxt (nxt (nxt a))) = nx4 a from rfl, ← hg]
  have hd : nx4 a % 4 < 4 := Nat.mod_lt _ (by decide)
  unfold mayN
  by_cases e0 : nx4 a % 4 = 0
  · rw [e0, if_pos (show nI 0 = 0 from rfl), if_pos rfl, bs_ (yr_28_0 g), bs_ (ck_35 g)]
    exact fin (f_X1_moving S_1 35 29 (nI (nxt (nxt a) % nm)) (nI (nxt a % nb))) _ _ (mvN_ag r n f h6 _ _) (cg.moving _ _)
  · rw [if_neg e0]
    by_cases e1 : nx4 a % 4 = 1
    · rw [e1, if_neg (show ¬ nI 1 = 0 by decide), if_pos (show nI 1 = 1 from rfl), if_pos rfl, bs_ (yr_28_0 g), bs_ (ck_35 g)]
      exact fin (f_X1_dividing S_1 35 29 (nI (nxt (nxt a) % nm))) _ _ (dvN_ag r n f h6 _) (cg.dividing _ hc)
    · rw [if_neg e1]
      by_cases e2 : nx4 a % 4 = 2
      · rw [e2, if_neg (show ¬ nI 2 = 0 by decide), if_neg (show ¬ nI 2 = 1 by decide), if_pos (show nI 2 = 2 from rfl), if_pos rfl, bs_ (yr_28_0 g), bs_ (ck_35 g)]
        exact fin (f_X1_flying S_1 35 29 (nI (nxt a % nb)) (nI (nxt (nxt (nxt a)) % 20))) _ _ (flN_ag r h7 _ _) (cg.flying _ _)
      · rw [if_neg e2, show nx4 a % 4 = 3 by omega, if_neg (by decide), if_neg (by decide), if_neg (by decide), bs_ (yr_28_0 g), bs_ (ck_35 g)]
        exact fin (f_X1_passing S_1 35 29) _ _ (psN_ag r h6) cg.passing
def mayL (n : Nat) (f : Nat → Cl) (nb nm : Nat) : Nat → (Nat → Int32) × Nat → (Nat → Int32) × Nat
  | 0, s => s
  | t + 1, s => if 999 ≤ s.1 5 then s else mayL n f nb nm t (mayN s.1 n f nb nm s.2, nx4 s.2)
theorem nx4_lt (a : Nat) : nx4 a < 1000003 := nxt_lt _
theorem q_mloop {p n nb nm N : Nat} {f : Nat → Cl} (hnb : 0 < nb) (hnm : 0 < nm) (hN : N ≤ 60) : ∀ (t i fu : Nat) (h : AH) (r : Nat → Int32) (a : Nat), i + t = N → t < fu → Ct h 29 r p n f nb nm → (∀ m, m < nm → 1 ≤ r (72 + m) ∧ r (72 + m) ≤ 9) → h.2.1 28 1 = nI nb → h.2.1 28 2 = nI nm → h.2.1 28 3 = nI a → a < 1000003 → ∃ h', f_X10_mays_l71 S_1 fu 0 (nI N) (nI i) h = some (0, h') ∧ Eqv PMy h h' ∧ Ct h' 29 (mayL n f nb nm t (r, a)).1 p n f nb nm := by
  intro t
  induction t with
  | zero =>
    intro i fu h r a hk hf ct _ _ _ _ _
    obtain ⟨fu, rfl⟩ : ∃ x, fu = x + 1 := ⟨fu - 1, by omega⟩
    have : i = N := by omega
    subst this
    rw [f_X10_mays_l71]
    unfold f_X10_mays_l71b
    simp (disch := first | rfl | decide | omega | (simp (disch := first | omega | decide) only [nI_l1, nI_l2, nI_l3, nI_l4, nI_add, nI_mul_]; exact ix_n (by omega) (by omega)) | (exact ix_n (by omega) (by omega)) | (exact ix_l (by decide) (by decide)) | assumption) only [Nat.le_refl, ↓zI, ↓zP, ↓zZ, ↓zC, ↓zJ, ↓zQ, ↓zE, ↓zK, ↓zF, ↓zD, ↓zr_0_0, ↓zr_0_2, ↓zr_0_3, ↓zr_0_4, ↓zr_0_5, ↓zr_0_6, ↓zr_0_7, ↓zr_0_8, ↓zr_0_9, ↓zr_0_10, ↓zr_0_11, ↓zr_0_12, ↓zr_0_13, ↓zr_2_0, ↓zr_2_2, ↓zr_2_3, ↓zr_2_5, ↓zr_2_6, ↓zr_2_11, ↓zr_2_13, ↓zr_2_14, ↓zr_3_0, ↓zr_3_1, ↓zr_12_0, ↓zr_12_1, ↓zr_16_0, ↓zr_16_1, ↓zr_19_0, ↓zr_19_1, ↓zr_22_0, ↓zr_22_1, ↓zr_25_0, ↓zr_25_1, ↓zr_28_0, ↓zr_29_0, ↓zr_29_1, ↓zr_32_0, ↓zr_32_1, ↓zr_35_0, ↓zr_35_1, ↓zr_35_4, ↓zr_35_5, ↓zr_38_0, ↓zr_38_1, ↓zr_38_2, ↓zr_38_3, ↓zr_38_4, ↓zr_39_0, ↓zr_39_1, ↓zr_45_0, ↓zr_45_1, ↓zr_46_0, ↓zr_46_1, ↓zr_46_2, ↓zr_50_0, ↓zr_50_1, ↓zr_54_0, ↓zr_54_2, ↓zr_54_3, ↓zr_54_5, ↓zr_54_6, ↓zr_54_11, ↓zr_54_13, ↓zr_54_14, ↓zr_55_0, ↓zr_55_1, ↓zr_64_0, ↓zr_64_1, ↓zr_67_0, ↓zr_67_2, ↓zr_67_3, ↓zr_67_5, ↓zr_67_6, ↓zr_67_11, ↓zr_67_13, ↓zr_67_14, ↓zr_68_0, ↓zr_68_1, ↓zr_77_0, ↓zr_77_1, ↓zr_80_2, ↓zr_80_3, ↓zr_80_4, ↓zr_80_5, ↓zr_80_6, ↓zr_80_7, ↓zr_80_9, ↓zr_80_10, ↓zr_80_12, ↓zr_80_22, ↓zr_80_24, ↓zr_80_25, ↓zr_80_27, ↓zr_80_28, ↓zr_80_31, ↓zr_80_32, ↓zr_80_33, ↓zr_80_35, ↓zr_80_36, ↓zr_80_37, ↓zr_80_41, ↓zr_80_42, ↓zr_80_43, ↓zr_80_44, ↓zr_80_46, ↓zr_80_47, ↓zr_80_48, ↓zr_80_49, ↓zr_80_55, ↓za_1, ↓zs_1, ↓zl_1, ↓za_4, ↓zs_4, ↓zl_4, ↓za_5, ↓zs_5, ↓zl_5, ↓za_6, ↓zs_6, ↓zl_6, ↓za_7, ↓zs_7, ↓zl_7, ↓za_8, ↓zs_8, ↓zl_8, ↓za_9, ↓zs_9, ↓zl_9, ↓za_10, ↓zs_10, ↓zl_10, ↓za_17, ↓zs_17, ↓zl_17, ↓za_18, ↓zs_18, ↓zl_18, ↓za_20, ↓zs_20, ↓zl_20, ↓za_21, ↓zs_21, ↓zl_21, ↓za_23, ↓zs_23, ↓zl_23, ↓za_24, ↓zs_24, ↓zl_24, ↓za_26, ↓zs_26, ↓zl_26, ↓za_27, ↓zs_27, ↓zl_27, ↓za_30, ↓zs_30, ↓zl_30, ↓za_31, ↓zs_31, ↓zl_31, ↓za_33, ↓zs_33, ↓zl_33, ↓za_34, ↓zs_34, ↓zl_34, ↓za_36, ↓zs_36, ↓zl_36, ↓za_37, ↓zs_37, ↓zl_37, ↓za_40, ↓zs_40, ↓zl_40, ↓za_41, ↓zs_41, ↓zl_41, ↓za_42, ↓zs_42, ↓zl_42, ↓za_43, ↓zs_43, ↓zl_43, ↓za_44, ↓zs_44, ↓zl_44, ↓za_47, ↓zs_47, ↓zl_47, ↓za_48, ↓zs_48, ↓zl_48, ↓za_49, ↓zs_49, ↓zl_49, ↓za_51, ↓zs_51, ↓zl_51, ↓za_52, ↓zs_52, ↓zl_52, ↓za_53, ↓zs_53, ↓zl_53, ↓za_56, ↓zs_56, ↓zl_56, ↓za_57, ↓zs_57, ↓zl_57, ↓za_58, ↓zs_58, ↓zl_58, ↓za_59, ↓zs_59, ↓zl_59, ↓za_60, ↓zs_60, ↓zl_60, ↓za_61, ↓zs_61, ↓zl_61, ↓za_62, ↓zs_62, ↓zl_62, ↓za_69, ↓zs_69, ↓zl_69, ↓za_70, ↓zs_70, ↓zl_70, ↓za_71, ↓zs_71, ↓zl_71, ↓za_72, ↓zs_72, ↓zl_72, ↓za_73, ↓zs_73, ↓zl_73, ↓za_74, ↓zs_74, ↓zl_74, ↓za_75, ↓zs_75, ↓zl_75, ↓za_81, ↓zs_81, ↓zl_81, ↓za_82, ↓zs_82, ↓zl_82, ↓za_83, ↓zs_83, ↓zl_83, ↓za_84, ↓zs_84, ↓zl_84, ↓za_85, ↓zs_85, ↓zl_85, ↓za_86, ↓zs_86, ↓zl_86, ↓za_87, ↓zs_87, ↓zl_87, ↓za_88, ↓zs_88, ↓zl_88, ↓za_89, ↓zs_89, ↓zl_89, ↓za_90, ↓zs_90, ↓zl_90, ↓za_91, ↓zs_91, ↓zl_91, ↓za_92, ↓zs_92, ↓zl_92, ↓za_93, ↓zs_93, ↓zl_93, ↓za_94, ↓zs_94, ↓zl_94, ↓za_95, ↓zs_95, ↓zl_95, ↓za_96, ↓zs_96, ↓zl_96, ↓za_97, ↓zs_97, ↓zl_97, ↓za_98, ↓zs_98, ↓zl_98, ↓za_99, ↓zs_99, ↓zl_99, ↓za_100, ↓zs_100, ↓zl_100, ↓za_101, ↓zs_101, ↓zl_101, ↓za_102, ↓zs_102, ↓zl_102, ↓za_103, ↓zs_103, ↓zl_103, ↓za_104, ↓zs_104, ↓zl_104, ↓za_105, ↓zs_105, ↓zl_105, ↓za_106, ↓zs_106, ↓zl_106, ↓za_107, ↓zs_107, ↓zl_107, ↓za_108, ↓zs_108, ↓zl_108, ↓za_109, ↓zs_109, ↓zl_109, hand_id, n01, n05, ob, Nat.zero_le, Nat.not_lt_zero, i10, i01, i12, i21, i20, i02, nl_le1, nl_le2, nl_lt1, nl_lt2, nl_eq1, nl_eq2, nn_le, nn_lt, nn_eq, nl_m1, m1_nl, z_lt, z_le, z_le2, z_lt2, z_eq, nI_l1, nI_l2, nI_l3, nI_l4, nI_add, nI_mul_, tn_n, tn_l, bI_0, bI_1, bI_z, bI_t, bI_f, Bool.false_eq_true, Bool.true_eq_false, eq_self, if_true, if_false, ↓reduceIte, reduceCtorEq, not_true_eq_false, not_false_eq_true, stI_s, stJ_s, ri_p, ri_k, ri_j, ri_1, ri_2, rj_i, rj_1, rj_2, rj_p, rj_k]
    exact ⟨h, rfl, Eqv.refl h, ct⟩
  | succ t ih =>
    intro i fu h r a hk hf ct hc f1 f2 f3 ha
    obtain ⟨fu, rfl⟩ : ∃ x, fu = x + 1 := ⟨fu - 1, by omega⟩
    have e5 : h.2.1 29 3 = r 5 := ct.2.1.2.2.2
    rw [f_X10_mays_l71]
    unfold f_X10_mays_l71b mayL
    by_cases e : 999 ≤ r 5
    · rw [if_pos e]
      simp (disch := first | rfl | decide | omega | (simp (disch := first | omega | decide) only [nI_l1, nI_l2, nI_l3, nI_l4, nI_add, nI_mul_]; exact ix_n (by omega) (by omega)) | (exact ix_n (by omega) (by omega)) | (exact ix_l (by decide) (by decide)) | assumption) only [show ¬ N ≤ i from by omega, e5, e, ↓zI, ↓zP, ↓zZ, ↓zC, ↓zJ, ↓zQ, ↓zE, ↓zK, ↓zF, ↓zD, ↓zr_0_0, ↓zr_0_2, ↓zr_0_3, ↓zr_0_4, ↓zr_0_5, ↓zr_0_6, ↓zr_0_7, ↓zr_0_8, ↓zr_0_9, ↓zr_0_10, ↓zr_0_11, ↓zr_0_12, ↓zr_0_13, ↓zr_2_0, ↓zr_2_2, ↓zr_2_3, ↓zr_2_5, ↓zr_2_6, ↓zr_2_11, ↓zr_2_13, ↓zr_2_14, ↓zr_3_0, ↓zr_3_1, ↓zr_12_0, ↓zr_12_1, ↓zr_16_0, ↓zr_16_1, ↓zr_19_0, ↓zr_19_1, ↓zr_22_0, ↓zr_22_1, ↓zr_25_0, ↓zr_25_1, ↓zr_28_0, ↓zr_29_0, ↓zr_29_1, ↓zr_32_0, ↓zr_32_1, ↓zr_35_0, ↓zr_35_1, ↓zr_35_4, ↓zr_35_5, ↓zr_38_0, ↓zr_38_1, ↓zr_38_2, ↓zr_38_3, ↓zr_38_4, ↓zr_39_0, ↓zr_39_1, ↓zr_45_0, ↓zr_45_1, ↓zr_46_0, ↓zr_46_1, ↓zr_46_2, ↓zr_50_0, ↓zr_50_1, ↓zr_54_0, ↓zr_54_2, ↓zr_54_3, ↓zr_54_5, ↓zr_54_6, ↓zr_54_11, ↓zr_54_13, ↓zr_54_14, ↓zr_55_0, ↓zr_55_1, ↓zr_64_0, ↓zr_64_1, ↓zr_67_0, ↓zr_67_2, ↓zr_67_3, ↓zr_67_5, ↓zr_67_6, ↓zr_67_11, ↓zr_67_13, ↓zr_67_14, ↓zr_68_0, ↓zr_68_1, ↓zr_77_0, ↓zr_77_1, ↓zr_80_2, ↓zr_80_3, ↓zr_80_4, ↓zr_80_5, ↓zr_80_6, ↓zr_80_7, ↓zr_80_9, ↓zr_80_10, ↓zr_80_12, ↓zr_80_22, ↓zr_80_24, ↓zr_80_25, ↓zr_80_27, ↓zr_80_28, ↓zr_80_31, ↓zr_80_32, ↓zr_80_33, ↓zr_80_35, ↓zr_80_36, ↓zr_80_37, ↓zr_80_41, ↓zr_80_42, ↓zr_80_43, ↓zr_80_44, ↓zr_80_46, ↓zr_80_47, ↓zr_80_48, ↓zr_80_49, ↓zr_80_55, ↓za_1, ↓zs_1, ↓zl_1, ↓za_4, ↓zs_4, ↓zl_4, ↓za_5, ↓zs_5, ↓zl_5, ↓za_6, ↓zs_6, ↓zl_6, ↓za_7, ↓zs_7, ↓zl_7, ↓za_8, ↓zs_8, ↓zl_8, ↓za_9, ↓zs_9, ↓zl_9, ↓za_10, ↓zs_10, ↓zl_10, ↓za_17, ↓zs_17, ↓zl_17, ↓za_18, ↓zs_18, ↓zl_18, ↓za_20, ↓zs_20, ↓zl_20, ↓za_21, ↓zs_21, ↓zl_21, ↓za_23, ↓zs_23, ↓zl_23, ↓za_24, ↓zs_24, ↓zl_24, ↓za_26, ↓zs_26, ↓zl_26, ↓za_27, ↓zs_27, ↓zl_27, ↓za_30, ↓zs_30, ↓zl_30, ↓za_31, ↓zs_31, ↓zl_31, ↓za_33, ↓zs_33, ↓zl_33, ↓za_34, ↓zs_34, ↓zl_34, ↓za_36, ↓zs_36, ↓zl_36, ↓za_37, ↓zs_37, ↓zl_37, ↓za_40, ↓zs_40, ↓zl_40, ↓za_41, ↓zs_41, ↓zl_41, ↓za_42, ↓zs_42, ↓zl_42, ↓za_43, ↓zs_43, ↓zl_43, ↓za_44, ↓zs_44, ↓zl_44, ↓za_47, ↓zs_47, ↓zl_47, ↓za_48, ↓zs_48, ↓zl_48, ↓za_49, ↓zs_49, ↓zl_49, ↓za_51, ↓zs_51, ↓zl_51, ↓za_52, ↓zs_52, ↓zl_52, ↓za_53, ↓zs_53, ↓zl_53, ↓za_56, ↓zs_56, ↓zl_56, ↓za_57, ↓zs_57, ↓zl_57, ↓za_58, ↓zs_58, ↓zl_58, ↓za_59, ↓zs_59, ↓zl_59, ↓za_60, ↓zs_60, ↓zl_60, ↓za_61, ↓zs_61, ↓zl_61, ↓za_62, ↓zs_62, ↓zl_62, ↓za_69, ↓zs_69, ↓zl_69, ↓za_70, ↓zs_70, ↓zl_70, ↓za_71, ↓zs_71, ↓zl_71, ↓za_72, ↓zs_72, ↓zl_72, ↓za_73, ↓zs_73, ↓zl_73, ↓za_74, ↓zs_74, ↓zl_74, ↓za_75, ↓zs_75, ↓zl_75, ↓za_81, ↓zs_81, ↓zl_81, ↓za_82, ↓zs_82, ↓zl_82, ↓za_83, ↓zs_83, ↓zl_83, ↓za_84, ↓zs_84, ↓zl_84, ↓za_85, ↓zs_85, ↓zl_85, ↓za_86, ↓zs_86, ↓zl_86, ↓za_87, ↓zs_87, ↓zl_87, ↓za_88, ↓zs_88, ↓zl_88, ↓za_89, ↓zs_89, ↓zl_89, ↓za_90, ↓zs_90, ↓zl_90, ↓za_91, ↓zs_91, ↓zl_91, ↓za_92, ↓zs_92, ↓zl_92, ↓za_93, ↓zs_93, ↓zl_93, ↓za_94, ↓zs_94, ↓zl_94, ↓za_95, ↓zs_95, ↓zl_95, ↓za_96, ↓zs_96, ↓zl_96, ↓za_97, ↓zs_97, ↓zl_97, ↓za_98, ↓zs_98, ↓zl_98, ↓za_99, ↓zs_99, ↓zl_99, ↓za_100, ↓zs_100, ↓zl_100, ↓za_101, ↓zs_101, ↓zl_101, ↓za_102, ↓zs_102, ↓zl_102, ↓za_103, ↓zs_103, ↓zl_103, ↓za_104, ↓zs_104, ↓zl_104, ↓za_105, ↓zs_105, ↓zl_105, ↓za_106, ↓zs_106, ↓zl_106, ↓za_107, ↓zs_107, ↓zl_107, ↓za_108, ↓zs_108, ↓zl_108, ↓za_109, ↓zs_109, ↓zl_109, hand_id, n01, n05, ob, Nat.zero_le, Nat.not_lt_zero, i10, i01, i12, i21, i20, i02, nl_le1, nl_le2, nl_lt1, nl_lt2, nl_eq1, nl_eq2, nn_le, nn_lt, nn_eq, nl_m1, m1_nl, z_lt, z_le, z_le2, z_lt2, z_eq, nI_l1, nI_l2, nI_l3, nI_l4, nI_add, nI_mul_, tn_n, tn_l, bI_0, bI_1, bI_z, bI_t, bI_f, Bool.false_eq_true, Bool.true_eq_false, eq_self, if_true, if_false, ↓reduceIte, reduceCtorEq, not_true_eq_false, not_false_eq_true, stI_s, stJ_s, ri_p, ri_k, ri_j, ri_1, ri_2, rj_i, rj_1, rj_2, rj_p, rj_k]
      exact ⟨h, rfl, Eqv.refl h, ct⟩
    · rw [if_neg e]
      obtain ⟨g, r1, e1, c1, s1⟩ := q_mstep ct hnb hnm hc f1 f2 f3 ha
      have ag := mayN_ag r n f (nm := nm) ct.2.2.2.2.2.2.1 ct.2.2.2.2.2.2.2.2 a
      obtain ⟨g', r2, e2, c2⟩ := ih (i + 1) fu g _ _ (by omega) (by omega) c1 (fun m hm => by
        rw [ag (72 + m) (by omega) (by omega)]
        exact hc m hm) ((e1.i 28 1 rfl).trans f1) ((e1.i 28 2 rfl).trans f2) s1 (nx4_lt a)
      refine ⟨g', ?_, e1.trans e2, c2⟩
      simp (disch := first | rfl | decide | omega | (simp (disch := first | omega | decide) only [nI_l1, nI_l2, nI_l3, nI_l4, nI_add, nI_mul_]; exact ix_n (by omega) (by omega)) | (exact ix_n (by omega) (by omega)) | (exact ix_l (by decide) (by decide)) | assumption) only [show ¬ N ≤ i from by omega, e5, e, bs_ r1, ↓zI, ↓zP, ↓zZ, ↓zC, ↓zJ, ↓zQ, ↓zE, ↓zK, ↓zF, ↓zD, ↓zr_0_0, ↓zr_0_2, ↓zr_0_3, ↓zr_0_4, ↓zr_0_5, ↓zr_0_6, ↓zr_0_7, ↓zr_0_8, ↓zr_0_9, ↓zr_0_10, ↓zr_0_11, ↓zr_0_12, ↓zr_0_13, ↓zr_2_0, ↓zr_2_2, ↓zr_2_3, ↓zr_2_5, ↓zr_2_6, ↓zr_2_11, ↓zr_2_13, ↓zr_2_14, ↓zr_3_0, ↓zr_3_1, ↓zr_12_0, ↓zr_12_1, ↓zr_16_0, ↓zr_16_1, ↓zr_19_0, ↓zr_19_1, ↓zr_22_0, ↓zr_22_1, ↓zr_25_0, ↓zr_25_1, ↓zr_28_0, ↓zr_29_0, ↓zr_29_1, ↓zr_32_0, ↓zr_32_1, ↓zr_35_0, ↓zr_35_1, ↓zr_35_4, ↓zr_35_5, ↓zr_38_0, ↓zr_38_1, ↓zr_38_2, ↓zr_38_3, ↓zr_38_4, ↓zr_39_0, ↓zr_39_1, ↓zr_45_0, ↓zr_45_1, ↓zr_46_0, ↓zr_46_1, ↓zr_46_2, ↓zr_50_0, ↓zr_50_1, ↓zr_54_0, ↓zr_54_2, ↓zr_54_3, ↓zr_54_5, ↓zr_54_6, ↓zr_54_11, ↓zr_54_13, ↓zr_54_14, ↓zr_55_0, ↓zr_55_1, ↓zr_64_0, ↓zr_64_1, ↓zr_67_0, ↓zr_67_2, ↓zr_67_3, ↓zr_67_5, ↓zr_67_6, ↓zr_67_11, ↓zr_67_13, ↓zr_67_14, ↓zr_68_0, ↓zr_68_1, ↓zr_77_0, ↓zr_77_1, ↓zr_80_2, ↓zr_80_3, ↓zr_80_4, ↓zr_80_5, ↓zr_80_6, ↓zr_80_7, ↓zr_80_9, ↓zr_80_10, ↓zr_80_12, ↓zr_80_22, ↓zr_80_24, ↓zr_80_25, ↓zr_80_27, ↓zr_80_28, ↓zr_80_31, ↓zr_80_32, ↓zr_80_33, ↓zr_80_35, ↓zr_80_36, ↓zr_80_37, ↓zr_80_41, ↓zr_80_42, ↓zr_80_43, ↓zr_80_44, ↓zr_80_46, ↓zr_80_47, ↓zr_80_48, ↓zr_80_49, ↓zr_80_55, ↓za_1, ↓zs_1, ↓zl_1, ↓za_4, ↓zs_4, ↓zl_4, ↓za_5, ↓zs_5, ↓zl_5, ↓za_6, ↓zs_6, ↓zl_6, ↓za_7, ↓zs_7, ↓zl_7, ↓za_8, ↓zs_8, ↓zl_8, ↓za_9, ↓zs_9, ↓zl_9, ↓za_10, ↓zs_10, ↓zl_10, ↓za_17, ↓zs_17, ↓zl_17, ↓za_18, ↓zs_18, ↓zl_18, ↓za_20, ↓zs_20, ↓zl_20, ↓za_21, ↓zs_21, ↓zl_21, ↓za_23, ↓zs_23, ↓zl_23, ↓za_24, ↓zs_24, ↓zl_24, ↓za_26, ↓zs_26, ↓zl_26, ↓za_27, ↓zs_27, ↓zl_27, ↓za_30, ↓zs_30, ↓zl_30, ↓za_31, ↓zs_31, ↓zl_31, ↓za_33, ↓zs_33, ↓zl_33, ↓za_34, ↓zs_34, ↓zl_34, ↓za_36, ↓zs_36, ↓zl_36, ↓za_37, ↓zs_37, ↓zl_37, ↓za_40, ↓zs_40, ↓zl_40, ↓za_41, ↓zs_41, ↓zl_41, ↓za_42, ↓zs_42, ↓zl_42, ↓za_43, ↓zs_43, ↓zl_43, ↓za_44, ↓zs_44, ↓zl_44, ↓za_47, ↓zs_47, ↓zl_47, ↓za_48, ↓zs_48, ↓zl_48, ↓za_49, ↓zs_49, ↓zl_49, ↓za_51, ↓zs_51, ↓zl_51, ↓za_52, ↓zs_52, ↓zl_52, ↓za_53, ↓zs_53, ↓zl_53, ↓za_56, ↓zs_56, ↓zl_56, ↓za_57, ↓zs_57, ↓zl_57, ↓za_58, ↓zs_58, ↓zl_58, ↓za_59, ↓zs_59, ↓zl_59, ↓za_60, ↓zs_60, ↓zl_60, ↓za_61, ↓zs_61, ↓zl_61, ↓za_62, ↓zs_62, ↓zl_62, ↓za_69, ↓zs_69, ↓zl_69, ↓za_70, ↓zs_70, ↓zl_70, ↓za_71, ↓zs_71, ↓zl_71, ↓za_72, ↓zs_72, ↓zl_72, ↓za_73, ↓zs_73, ↓zl_73, ↓za_74, ↓zs_74, ↓zl_74, ↓za_75, ↓zs_75, ↓zl_75, ↓za_81, ↓zs_81, ↓zl_81, ↓za_82, ↓zs_82, ↓zl_82, ↓za_83, ↓zs_83, ↓zl_83, ↓za_84, ↓zs_84, ↓zl_84, ↓za_85, ↓zs_85, ↓zl_85, ↓za_86, ↓zs_86, ↓zl_86, ↓za_87, ↓zs_87, ↓zl_87, ↓za_88, ↓zs_88, ↓zl_88, ↓za_89, ↓zs_89, ↓zl_89, ↓za_90, ↓zs_90, ↓zl_90, ↓za_91, ↓zs_91, ↓zl_91, ↓za_92, ↓zs_92, ↓zl_92, ↓za_93, ↓zs_93, ↓zl_93, ↓za_94, ↓zs_94, ↓zl_94, ↓za_95, ↓zs_95, ↓zl_95, ↓za_96, ↓zs_96, ↓zl_96, ↓za_97, ↓zs_97, ↓zl_97, ↓za_98, ↓zs_98, ↓zl_98, ↓za_99, ↓zs_99, ↓zl_99, ↓za_100, ↓zs_100, ↓zl_100, ↓za_101, ↓zs_101, ↓zl_101, ↓za_102, ↓zs_102, ↓zl_102, ↓za_103, ↓zs_103, ↓zl_103, ↓za_104, ↓zs_104, ↓zl_104, ↓za_105, ↓zs_105, ↓zl_105, ↓za_106, ↓zs_106, ↓zl_106, ↓za_107, ↓zs_107, ↓zl_107, ↓za_108, ↓zs_108, ↓zl_108, ↓za_109, ↓zs_109, ↓zl_109, hand_id, n01, n05, ob, Nat.zero_le, Nat.not_lt_zero, i10, i01, i12, i21, i20, i02, nl_le1, nl_le2, nl_lt1, nl_lt2, nl_eq1, nl_eq2, nn_le, nn_lt, nn_eq, nl_m1, m1_nl, z_lt, z_le, z_le2, z_lt2, z_eq, nI_l1, nI_l2, nI_l3, nI_l4, nI_add, nI_mul_, tn_n, tn_l, bI_0, bI_1, bI_z, bI_t, bI_f, Bool.false_eq_true, Bool.true_eq_false, eq_self, if_true, if_false, ↓reduceIte, reduceCtorEq, not_true_eq_false, not_false_eq_true, stI_s, stJ_s, ri_p, ri_k, ri_j, ri_1, ri_2, rj_i, rj_1, rj_2, rj_p, rj_k]
      exact r2
