/-! to move, to divide, to fly, a night: both sides -/
def ActA (h ha : AH) (x z t : Nat) (done : Bool) (r : Nat → Int32) : Prop := NoteC x (h.2.1 17) (ha.2.1 17) r ∧ (done = true → (∀ j, ha.2.1 18 j = if j = x then nI t else h.2.1 18 j) ∧ ha.2.1 16 2 = nI ((x + 1) % 17) ∧ ha.2.1 16 3 = nI (min (z + 1) 16)) ∧ (done = false → ha.2.1 18 = h.2.1 18 ∧ ha.2.1 16 2 = h.2.1 16 2 ∧ ha.2.1 16 3 = h.2.1 16 3)
def actF (t : Nat) (Xf : AH → Option (Int32 × AH)) (h : AH) : Option (Int32 × AH) := (f_X5_note S_1 16 3 h).bind fun z => (Xf z.2).bind fun z => if z.1 < 0 then some z else (f_X5_keep S_1 16 (nI t) z.2).bind fun w => some (z.1, w.2)
theorem PX_o (q j : Nat) (h : q = 2 ∨ 6 ≤ q ∧ q ≤ 10 ∨ LawP q) : PX q j = false := PX_no (by unfold LawP at h; omega)
theorem P17_o (q j : Nat) (h : q = 2 ∨ 6 ≤ q ∧ q ≤ 10 ∨ LawP q) : P17 q j = false := decide_eq_false (by unfold LawP at h; omega)
theorem PSt3_o (q j : Nat) (h : q = 2 ∨ 6 ≤ q ∧ q ≤ 10 ∨ LawP q) : PSt 3 q j = false := by
  unfold PSt
  rw [PX_o q j h]
  exact decide_eq_false (by unfold LawP at h; omega)
theorem PSt3_n {p j : Nat} (h1 : p < 32 ∨ 35 < p) (h : ¬ (p = 3 ∨ p = 4 ∨ p = 5)) : PSt 3 p j = false := by
  unfold PSt
  rw [PX_no h1]
  exact decide_eq_false (by omega)
theorem PSt3_c (p j : Nat) (h : PSt 3 p j = true) : PGc p j = true := by
  unfold PSt at h
  rw [Bool.or_eq_true] at h
  rcases h with h | h
  · exact PGc_of (Or.inl (PX_Z p j h)) (by have := of_decide_eq_true h; omega)
  · have h := of_decide_eq_true h
    exact PGc_of (by omega) (by omega)
theorem q_actF {h : AH} {r r' : Nat → Int32} {p n nb nm x z t : Nat} {f : Nat → Cl} {v : Int32} {done : Bool} {Xf : AH → Option (Int32 × AH)} (ct : Ct h 3 r p n f nb nm) (hx : x < 17) (hz : z ≤ 16) (h2 : h.2.1 16 2 = nI x) (h3 : h.2.1 16 3 = nI z) (hX : ∀ h1, Ct h1 3 r p n f nb nm → ∃ h', Xf h1 = some (v, h') ∧ Eqv (PSt 3) h1 h' ∧ StX h' 3 r') (hd : (v < 0) = (done = false)) (ag : Ag r r') : ∃ ha, actF t Xf h = some (v, ha) ∧ Eqv PGc h ha ∧ StX ha 3 r' ∧ RoX ha 2 r' ∧ ActA h ha x z t done r := by
  obtain ⟨h1, q1, e1, n1⟩ := q_note hx h2 ct.2.1
  have c1 : Ct h1 3 r p n f nb nm := ct.mv (Or.inl rfl) e1 P17_o (ct.2.1.rows (e1.row fun j => rfl) (e1.row fun j => rfl) (e1.row fun j => rfl)) (Ag.refl r)
  obtain ⟨h4, q4, e4, s4⟩ := hX h1 c1
  have c4 : Ct h4 3 r' p n f nb nm := c1.mv (Or.inl rfl) e4 PSt3_o s4 ag
  have P1 : ∀ p j, P17 p j = true → PGc p j = true := fun p j e => by
    have e := of_decide_eq_true e
    exact PGc_of (by omega) (by omega)
  have E4 : Eqv PGc h h4 := (e1.mono P1).trans (e4.mono PSt3_c)
  have row17 : h4.2.1 17 = h1.2.1 17 := e4.row fun j => PSt3_n (by omega) (by omega)
  have row18 : h4.2.1 18 = h.2.1 18 := (e4.row fun j => PSt3_n (by omega) (by omega)).trans (e1.row fun j => rfl)
  have g2 : h4.2.1 16 2 = h.2.1 16 2 := (e4.i 16 2 rfl).trans (e1.i 16 2 rfl)
  have g3 : h4.2.1 16 3 = h.2.1 16 3 := (e4.i 16 3 rfl).trans (e1.i 16 3 rfl)
  unfold actF
  rw [bs_ q1]
  dsimp only
  rw [bs_ q4]
  dsimp only
  cases done with
  | false =>
    rw [if_pos (by rw [hd])]
    exact ⟨h4, rfl, E4, s4, c4.2.2.1, by rw [row17]; exact n1, fun e => (by cases e), fun _ => ⟨row18, g2, g3⟩⟩
  | true =>
    rw [if_neg (by rw [hd]; decide)]
    obtain ⟨h5, q5, e5, k1, k2, k3⟩ := q_keep (h := h4) hx hz (g2.trans h2) (g3.trans h3) (nI t)
    rw [bs_ q5]
    have P5 : ∀ p j, (fun p j => decide (p = 18 ∨ p = 16 ∧ (j = 2 ∨ j = 3))) p j = true → PGc p j = true := fun p j e => by
      have e := of_decide_eq_true e
      exact PGc_of (by omega) (by omega)
    refine ⟨h5, rfl, E4.trans (e5.mono P5), s4.rows (e5.row fun j => decide_eq_false (by omega)) (e5.row fun j => decide_eq_false (by omega)) (e5.row fun j => decide_eq_false (by omega)), c4.2.2.1.rows (fun d hd hd2 => e5.row fun j => decide_eq_false (by omega)), by rw [e5.row (p := 17) fun j => decide_eq_false (by omega), row17]; exact n1, fun _ => ⟨fun j => ?_, k2, k3⟩, fun e => (by cases e)⟩
    rw [k1, row18]
theorem PD_m (p j : Nat) (h : PD p j = true) : PGm p j = true := by
  unfold PD at h
  rw [Bool.or_eq_true, Bool.or_eq_true] at h
  rcases h with h | h | h
  · exact PGm_of (Or.inl (PT_Z p j h)) (by have := of_decide_eq_true h; omega)
  · have h := of_decide_eq_true h
    exact PGm_of (by omega) (by omega)
  · have h := of_decide_eq_true h
    exact PGm_of (by omega) (by omega)
theorem bo_act {h : AH} {nb nm nh nl p n t : Nat} {f : Nat → Cl} {v : Int32} {done : Bool} {r' : Nat → Int32} {fx fm Xf Nf : AH → Option (Int32 × AH)} (st : StS h) (k0 : Rel0 h nb nm nh nl) (ct : Ct h 3 (h.2.1 82) p n f nb nm) (cm : CM h n f nb nm) (ht : t < 4) (hfx : ∀ h, fx h = (actF t Xf h).bind fun z => f_X10_answer S_1 0 z.1 z.2) (hfm : ∀ h, fm h = (Nf (stI h 80 0 0)).bind fun z => f_X11_tell S_1 80 z.1 z.2)
    (hX : ∀ h1, Ct h1 3 (h.2.1 82) p n f nb nm → ∃ h', Xf h1 = some (v, h') ∧ Eqv (PSt 3) h1 h' ∧ StX h' 3 r')
    (hN : ∀ h1 z, CM h1 n f nb nm → h1.2.1 82 = h.2.1 82 → z ≤ 16 → h1.2.1 80 8 = nI z → ∃ h', Nf h1 = some (v, h') ∧ Eqv PD h1 h' ∧ h'.2.1 82 = r' ∧ (done = true → UPush h1 h' z t) ∧ (done = false → Eqv PT h1 h'))
    (hv : okV v) (hd : (v < 0) = (done = false)) (ag : Ag (h.2.1 82) r') (bt : BdT r') : Bo h fx fm := by
  obtain ⟨z, x, hz, hx, e3, e2, e8, rz⟩ := k0.2.2.2.2.1
  refine bo_g (v := v) (cc := v) (r' := r') (fun ha => ActA h ha x z t done (h.2.1 82)) (fun hb => (done = true → UPush h hb z t) ∧ (done = false → RgB h hb)) st k0 (nb' := nb) (nm' := nm) (nh' := nh) (k0.1.ag ag) bt ?_ ?_ ?_
  · obtain ⟨ha, qa, ea, sa, ra, aa⟩ := q_actF (t := t) ct hx hz e2 e3 hX hd ag
    obtain ⟨h1, q1, e1, s1⟩ := q_answer ha v hv
    refine ⟨ha, h1, ?_, ea, sa, ra, e1, s1, aa⟩
    rw [hfx, bs_ qa]
    exact q1
  · intro h1 F1
    have c1 : CM (stI h1 80 0 0) n f nb nm := cm.z F1.r82 (F1 80 20 (by omega) (by omega)).1
    obtain ⟨hb, qb, eb, rb, u1, u2⟩ := hN (stI h1 80 0 0) z c1 F1.r82 hz ((F1 80 8 (by omega) (by omega)).1.trans e8)
    obtain ⟨h2, q2, e2', s2⟩ := m_tell hb v hv
    refine ⟨hb, h2, ?_, ((Eqv.refl h1).si PGm_0).trans (eb.mono PD_m), rb, e2', s2, fun e => ?_, fun e => ?_⟩
    · rw [hfm, bs_ qb]
      exact q2
    · have u := u1 e
      unfold UPush at u ⊢
      rw [← F1.b.1, ← F1.b.2.1, ← F1.r82]
      exact u
    · have u := u2 e
      exact ⟨(u.row PT_85).trans F1.b.1, (u.row PT_86).trans F1.b.2.1, (u.i 80 8 PT_8).trans F1.b.2.2⟩
  · intro ha hb' A1 B1
    have g6 := ag 6 (by omega) (by omega)
    have g7 := ag 7 (by omega) (by omega)
    have g8 := ag 8 (by omega) (by omega)
    cases done with
    | true =>
      obtain ⟨a1, a2, a3⟩ := A1.2.1 rfl
      exact rg_push hz hx ht rz k0.2.1 A1.1 a1 a2 a3 (B1.1 rfl) g6 g7 g8
    | false =>
      obtain ⟨a1, a2, a3⟩ := A1.2.2 rfl
      obtain ⟨b1, b2, b3⟩ := B1.2 rfl
      rw [a1, a2, a3, b1, b2, b3]
      have := RgZ.note rz hx hz A1.1
      exact RgP.cong ⟨z, x, hz, hx, e3, e2, e8, this⟩ rfl rfl (fun _ _ => rfl) rfl g6 g7 g8
theorem i266 : ((266 : Int32) - 266) = nI 0 := by decide
theorem i267 : ((267 : Int32) - 266) = nI 1 := by decide
theorem i268 : ((268 : Int32) - 266) = nI 2 := by decide
theorem i269 : ((269 : Int32) - 266) = nI 3 := by decide
theorem sec_pos {r : Nat → Int32} {n nb m b : Nat} {f : Nat → Cl} (h7 : nb ≤ 7) (e : secS r n f nb m b ≠ -1) : 0 ≤ secS r n f nb m b := by
  rcases fst_m1 (fun o => heS r o b && ayS r n f o m) nb 0 with h | ⟨j, h1, h2, h3, h4⟩
  · exact absurd h e
  · show 0 ≤ fst _ 0 nb
    rw [h4]
    exact nI_pos' (by omega)
theorem bo_move {h : AH} (k : Rel h) (x y : Int32) : Bo h (f_X10_move S_1 0 x y) (f_X11_move S_1 80 x y) := by
  obtain ⟨st, nb, nm, nh, nl, k0⟩ := id k
  obtain ⟨p, n, f, ct, cm⟩ := k0.law
  have h7 := cm.2.2.2.1
  have h6 := cm.2.2.2.2.2
  have hd : (mvV (h.2.1 82) n f nb nm x y < 0) = (mvD (h.2.1 82) n f nb nm x y = false) := by
    unfold mvV mvD
    cases e : inb x nm && inb y nb with
    | false => simp
    | true =>
      cases ec : mvC (h.2.1 82) n f nb x.toNatClampNeg y.toNatClampNeg with
      | false => simp
      | true =>
        have es : secS (h.2.1 82) n f nb x.toNatClampNeg y.toNatClampNeg ≠ -1 := by
          unfold mvC at ec
          rw [Bool.and_eq_true, Bool.and_eq_true] at ec
          exact of_decide_eq_true ec.2.2
        simp [Int32.not_lt.mpr (sec_pos h7 es)]
  have hv : okV (mvV (h.2.1 82) n f nb nm x y) := by
    unfold mvV
    cases e : inb x nm && inb y nb with
    | false => exact Or.inr (Or.inr (Or.inl rfl))
    | true =>
      cases ec : mvC (h.2.1 82) n f nb x.toNatClampNeg y.toNatClampNeg with
      | false => exact Or.inr (Or.inr (Or.inr (Or.inl rfl)))
      | true =>
        have es : secS (h.2.1 82) n f nb x.toNatClampNeg y.toNatClampNeg ≠ -1 := by
          unfold mvC at ec
          rw [Bool.and_eq_true, Bool.and_eq_true] at ec
          exact of_decide_eq_true ec.2.2
        exact Or.inl (sec_pos h7 es)
  have rr : mvN (h.2.1 82) n f nb nm x y = h.2.1 82 ∨ ∃ m, m < 6 ∧ mvN (h.2.1 82) n f nb nm x y = rset (h.2.1 82) (17 + m) 1 := by
    unfold mvN
    by_cases e : (inb x nm && inb y nb && mvC (h.2.1 82) n f nb x.toNatClampNeg y.toNatClampNeg) = true
    · rw [if_pos e]
      rw [Bool.and_eq_true, Bool.and_eq_true] at e
      obtain ⟨m, hm, rfl⟩ := inb_of (by omega) e.1.1
      exact Or.inr ⟨m, by omega, by rw [tn_n (show m < 2 ^ 31 by omega)]⟩
    · rw [if_neg e]
      exact Or.inl rfl
  have ag : Ag (h.2.1 82) (mvN (h.2.1 82) n f nb nm x y) := by
    rcases rr with e | ⟨m, hm, e⟩
    · rw [e]; exact Ag.refl _
    · rw [e]; exact (Ag.refl _).set (by omega)
  have bt : BdT (mvN (h.2.1 82) n f nb nm x y) := by
    rcases rr with e | ⟨m, hm, e⟩
    · rw [e]; exact k0.2.1
    · rw [e]
      obtain ⟨a1, a2, a3, a4⟩ := k0.2.1
      refine ⟨by rw [rset_n _ _ (by omega)]; exact a1, by rw [rset_n _ _ (by omega)]; exact a2, fun j hj => by rw [rset_n _ _ (by omega)]; exact a3 j hj, fun j hj => ?_⟩
      by_cases ej : 17 + j = 17 + m
      · rw [ej, rset_s]
        exact ⟨by decide, by decide⟩
      · rw [rset_n _ _ ej]; exact a4 j hj
  refine bo_act (t := 0) (done := mvD (h.2.1 82) n f nb nm x y) (Xf := fun h => f_X1_moving S_1 35 3 x y h) (Nf := fun h => f_X11_moveNow S_1 80 x y h) st k0 ct cm (by omega) (fun h => ?_) (fun h => ?_) (fun h1 c1 => c1.moving x y) (fun h1 z c1 e1 hz h8 => ?_) hv hd ag bt
  · unfold f_X10_move f_X10_act actF
    simp (disch := first | rfl | decide | omega | (simp (disch := first | omega | decide) only [nI_l1, nI_l2, nI_l3, nI_l4, nI_add, nI_mul_]; exact ix_n (by omega) (by omega)) | (exact ix_n (by omega) (by omega)) | (exact ix_l (by decide) (by decide)) | assumption) only [i266, ↓zI, ↓zP, ↓zZ, ↓zC, ↓zJ, ↓zQ, ↓zE, ↓zK, ↓zF, ↓zD, ↓zr_0_0, ↓zr_0_2, ↓zr_0_3, ↓zr_0_4, ↓zr_0_5, ↓zr_0_6, ↓zr_0_7, ↓zr_0_8, ↓zr_0_9, ↓zr_0_10, ↓zr_0_11, ↓zr_0_12, ↓zr_0_13, ↓zr_2_0, ↓zr_2_2, ↓zr_2_3, ↓zr_2_5, ↓zr_2_6, ↓zr_2_11, ↓zr_2_13, ↓zr_2_14, ↓zr_3_0, ↓zr_3_1, ↓zr_12_0, ↓zr_12_1, ↓zr_16_0, ↓zr_16_1, ↓zr_19_0, ↓zr_19_1, ↓zr_22_0, ↓zr_22_1, ↓zr_25_0, ↓zr_25_1, ↓zr_28_0, ↓zr_29_0, ↓zr_29_1, ↓zr_32_0, ↓zr_32_1, ↓zr_35_0, ↓zr_35_1, ↓zr_35_4, ↓zr_35_5, ↓zr_38_0, ↓zr_38_1, ↓zr_38_2, ↓zr_38_3, ↓zr_38_4, ↓zr_39_0, ↓zr_39_1, ↓zr_45_0, ↓zr_45_1, ↓zr_46_0, ↓zr_46_1, ↓zr_46_2, ↓zr_50_0, ↓zr_50_1, ↓zr_54_0, ↓zr_54_2, ↓zr_54_3, ↓zr_54_5, ↓zr_54_6, ↓zr_54_11, ↓zr_54_13, ↓zr_54_14, ↓zr_55_0, ↓zr_55_1, ↓zr_64_0, ↓zr_64_1, ↓zr_67_0, ↓zr_67_2, ↓zr_67_3, ↓zr_67_5, ↓zr_67_6, ↓zr_67_11, ↓zr_67_13, ↓zr_67_14, ↓zr_68_0, ↓zr_68_1, ↓zr_77_0, ↓zr_77_1, ↓zr_80_2, ↓zr_80_3, ↓zr_80_4, ↓zr_80_5, ↓zr_80_6, ↓zr_80_7, ↓zr_80_9, ↓zr_80_10, ↓zr_80_12, ↓zr_80_22, ↓zr_80_24, ↓zr_80_25, ↓zr_80_27, ↓zr_80_28, ↓zr_80_31, ↓zr_80_32, ↓zr_80_33, ↓zr_80_35, ↓zr_80_36, ↓zr_80_37, ↓zr_80_41, ↓zr_80_42, ↓zr_80_43, ↓zr_80_44, ↓zr_80_46, ↓zr_80_47, ↓zr_80_48, ↓zr_80_49, ↓zr_80_55, ↓za_1, ↓zs_1, ↓zl_1, ↓za_4, ↓zs_4, ↓zl_4, ↓za_5, ↓zs_5, ↓zl_5, ↓za_6, ↓zs_6, ↓zl_6, ↓za_7, ↓zs_7, ↓zl_7, ↓za_8, ↓zs_8, ↓zl_8, ↓za_9, ↓zs_9, ↓zl_9, ↓za_10, ↓zs_10, ↓zl_10, ↓za_17, ↓zs_17, ↓zl_17, ↓za_18, ↓zs_18, ↓zl_18, ↓za_20, ↓zs_20, ↓zl_20, ↓za_21, ↓zs_21, ↓zl_21, ↓za_23, ↓zs_23, ↓zl_23, ↓za_24, ↓zs_24, ↓zl_24, ↓za_26, ↓zs_26, ↓zl_26, ↓za_27, ↓zs_27, ↓zl_27, ↓za_30, ↓zs_30, ↓zl_30, ↓za_31, ↓zs_31, ↓zl_31, ↓za_33, ↓zs_33, ↓zl_33, ↓za_34, ↓zs_34, ↓zl_34, ↓za_36, ↓zs_36, ↓zl_36, ↓za_37, ↓zs_37, ↓zl_37, ↓za_40, ↓zs_40, ↓zl_40, ↓za_41, ↓zs_41, ↓zl_41, ↓za_42, ↓zs_42, ↓zl_42, ↓za_43, ↓zs_43, ↓zl_43, ↓za_44, ↓zs_44, ↓zl_44, ↓za_47, ↓zs_47, ↓zl_47, ↓za_48, ↓zs_48, ↓zl_48, ↓za_49, ↓zs_49, ↓zl_49, ↓za_51, ↓zs_51, ↓zl_51, ↓za_52, ↓zs_52, ↓zl_52, ↓za_53, ↓zs_53, ↓zl_53, ↓za_56, ↓zs_56, ↓zl_56, ↓za_57, ↓zs_57, ↓zl_57, ↓za_58, ↓zs_58, ↓zl_58, ↓za_59, ↓zs_59, ↓zl_59, ↓za_60, ↓zs_60, ↓zl_60, ↓za_61, ↓zs_61, ↓zl_61, ↓za_62, ↓zs_62, ↓zl_62, ↓za_69, ↓zs_69, ↓zl_69, ↓za_70, ↓zs_70, ↓zl_70, ↓za_71, ↓zs_71, ↓zl_71, ↓za_72, ↓zs_72, ↓zl_72, ↓za_73, ↓zs_73, ↓zl_73, ↓za_74, ↓zs_74, ↓zl_74, ↓za_75, ↓zs_75, ↓zl_75, ↓za_81, ↓zs_81, ↓zl_81, ↓za_82, ↓zs_82, ↓zl_82, ↓za_83, ↓zs_83, ↓zl_83, ↓za_84, ↓zs_84, ↓zl_84, ↓za_85, ↓zs_85, ↓zl_85, ↓za_86, ↓zs_86, ↓zl_86, ↓za_87, ↓zs_87, ↓zl_87, ↓za_88, ↓zs_88, ↓zl_88, ↓za_89, ↓zs_89, ↓zl_89, ↓za_90, ↓zs_90, ↓zl_90, ↓za_91, ↓zs_91, ↓zl_91, ↓za_92, ↓zs_92, ↓zl_92, ↓za_93, ↓zs_93, ↓zl_93, ↓za_94, ↓zs_94, ↓zl_94, ↓za_95, ↓zs_95, ↓zl_95, ↓za_96, ↓zs_96, ↓zl_96, ↓za_97, ↓zs_97, ↓zl_97, ↓za_98, ↓zs_98, ↓zl_98, ↓za_99, ↓zs_99, ↓zl_99, ↓za_100, ↓zs_100, ↓zl_100, ↓za_101, ↓zs_101, ↓zl_101, ↓za_102, ↓zs_102, ↓zl_102, ↓za_103, ↓zs_103, ↓zl_103, ↓za_104, ↓zs_104, ↓zl_104, ↓za_105, ↓zs_105, ↓zl_105, ↓za_106, ↓zs_106, ↓zl_106, ↓za_107, ↓zs_107, ↓zl_107, ↓za_108, ↓zs_108, ↓zl_108, ↓za_109, ↓zs_109, ↓zl_109, hand_id, n01, n05, ob, Nat.zero_le, Nat.not_lt_zero, i10, i01, i12, i21, i20, i02, nl_le1, nl_le2, nl_lt1, nl_lt2, nl_eq1, nl_eq2, nn_le, nn_lt, nn_eq, nl_m1, m1_nl, z_lt, z_le, z_le2, z_lt2, z_eq, nI_l1, nI_l2, nI_l3, nI_l4, nI_add, nI_mul_, tn_n, tn_l, bI_0, bI_1, bI_z, bI_t, bI_f, Bool.false_eq_true, Bool.true_eq_false, eq_self, if_true, if_false, ↓reduceIte, reduceCtorEq, not_true_eq_false, not_false_eq_true, stI_s, stJ_s, ri_p, ri_k, ri_j, ri_1, ri_2, rj_i, rj_1, rj_2, rj_p, rj_k]
  · unfold f_X11_move
    simp (disch := first | rfl | decide | omega | (simp (disch := first | omega | decide) only [nI_l1, nI_l2, nI_l3, nI_l4, nI_add, nI_mul_]; exact ix_n (by omega) (by omega)) | (exact ix_n (by omega) (by omega)) | (exact ix_l (by decide) (by decide)) | assumption) only [↓zI, ↓zP, ↓zZ, ↓zC, ↓zJ, ↓zQ, ↓zE, ↓zK, ↓zF, ↓zD, ↓zr_0_0, ↓zr_0_2, ↓zr_0_3, ↓zr_0_4, ↓zr_0_5, ↓zr_0_6, ↓zr_0_7, ↓zr_0_8, ↓zr_0_9, ↓zr_0_10, ↓zr_0_11, ↓zr_0_12, ↓zr_0_13, ↓zr_2_0, ↓zr_2_2, ↓zr_2_3, ↓zr_2_5, ↓zr_2_6, ↓zr_2_11, ↓zr_2_13, ↓zr_2_14, ↓zr_3_0, ↓zr_3_1, ↓zr_12_0, ↓zr_12_1, ↓zr_16_0, ↓zr_16_1, ↓zr_19_0, ↓zr_19_1, ↓zr_22_0, ↓zr_22_1, ↓zr_25_0, ↓zr_25_1, ↓zr_28_0, ↓zr_29_0, ↓zr_29_1, ↓zr_32_0, ↓zr_32_1, ↓zr_35_0, ↓zr_35_1, ↓zr_35_4, ↓zr_35_5, ↓zr_38_0, ↓zr_38_1, ↓zr_38_2, ↓zr_38_3, ↓zr_38_4, ↓zr_39_0, ↓zr_39_1, ↓zr_45_0, ↓zr_45_1, ↓zr_46_0, ↓zr_46_1, ↓zr_46_2, ↓zr_50_0, ↓zr_50_1, ↓zr_54_0, ↓zr_54_2, ↓zr_54_3, ↓zr_54_5, ↓zr_54_6, ↓zr_54_11, ↓zr_54_13, ↓zr_54_14, ↓zr_55_0, ↓zr_55_1, ↓zr_64_0, ↓zr_64_1, ↓zr_67_0, ↓zr_67_2, ↓zr_67_3, ↓zr_67_5, ↓zr_67_6, ↓zr_67_11, ↓zr_67_13, ↓zr_67_14, ↓zr_68_0, ↓zr_68_1, ↓zr_77_0, ↓zr_77_1, ↓zr_80_2, ↓zr_80_3, ↓zr_80_4, ↓zr_80_5, ↓zr_80_6, ↓zr_80_7, ↓zr_80_9, ↓zr_80_10, ↓zr_80_12, ↓zr_80_22, ↓zr_80_24, ↓zr_80_25, ↓zr_80_27, ↓zr_80_28, ↓zr_80_31, ↓zr_80_32, ↓zr_80_33, ↓zr_80_35, ↓zr_80_36, ↓zr_80_37, ↓zr_80_41, ↓zr_80_42, ↓zr_80_43, ↓zr_80_44, ↓zr_80_46, ↓zr_80_47, ↓zr_80_48, ↓zr_80_49, ↓zr_80_55, ↓za_1, ↓zs_1, ↓zl_1, ↓za_4, ↓zs_4, ↓zl_4, ↓za_5, ↓zs_5, ↓zl_5, ↓za_6, ↓zs_6, ↓zl_6, ↓za_7, ↓zs_7, ↓zl_7, ↓za_8, ↓zs_8, ↓zl_8, ↓za_9, ↓zs_9, ↓zl_9, ↓za_10, ↓zs_10, ↓zl_10, ↓za_17, ↓zs_17, ↓zl_17, ↓za_18, ↓zs_18, ↓zl_18, ↓za_20, ↓zs_20, ↓zl_20, ↓za_21, ↓zs_21, ↓zl_21, ↓za_23, ↓zs_23, ↓zl_23, ↓za_24, ↓zs_24, ↓zl_24, ↓za_26, ↓zs_26, ↓zl_26, ↓za_27, ↓zs_27, ↓zl_27, ↓za_30, ↓zs_30, ↓zl_30, ↓za_31, ↓zs_31, ↓zl_31, ↓za_33, ↓zs_33, ↓zl_33, ↓za_34, ↓zs_34, ↓zl_34, ↓za_36, ↓zs_36, ↓zl_36, ↓za_37, ↓zs_37, ↓zl_37, ↓za_40, ↓zs_40, ↓zl_40, ↓za_41, ↓zs_41, ↓zl_41, ↓za_42, ↓zs_42, ↓zl_42, ↓za_43, ↓zs_43, ↓zl_43, ↓za_44, ↓zs_44, ↓zl_44, ↓za_47, ↓zs_47, ↓zl_47, ↓za_48, ↓zs_48, ↓zl_48, ↓za_49, ↓zs_49, ↓zl_49, ↓za_51, ↓zs_51, ↓zl_51, ↓za_52, ↓zs_52, ↓zl_52, ↓za_53, ↓zs_53, ↓zl_53, ↓za_56, ↓zs_56, ↓zl_56, ↓za_57, ↓zs_57, ↓zl_57, ↓za_58, ↓zs_58, ↓zl_58, ↓za_59, ↓zs_59, ↓zl_59, ↓za_60, ↓zs_60, ↓zl_60, ↓za_61, ↓zs_61, ↓zl_61, ↓za_62, ↓zs_62, ↓zl_62, ↓za_69, ↓zs_69, ↓zl_69, ↓za_70, ↓zs_70, ↓zl_70, ↓za_71, ↓zs_71, ↓zl_71, ↓za_72, ↓zs_72, ↓zl_72, ↓za_73, ↓zs_73, ↓zl_73, ↓za_74, ↓zs_74, ↓zl_74, ↓za_75, ↓zs_75, ↓zl_75, ↓za_81, ↓zs_81, ↓zl_81, ↓za_82, ↓zs_82, ↓zl_82, ↓za_83, ↓zs_83, ↓zl_83, ↓za_84, ↓zs_84, ↓zl_84, ↓za_85, ↓zs_85, ↓zl_85, ↓za_86, ↓zs_86, ↓zl_86, ↓za_87, ↓zs_87, ↓zl_87, ↓za_88, ↓zs_88, ↓zl_88, ↓za_89, ↓zs_89, ↓zl_89, ↓za_90, ↓zs_90, ↓zl_90, ↓za_91, ↓zs_91, ↓zl_91, ↓za_92, ↓zs_92, ↓zl_92, ↓za_93, ↓zs_93, ↓zl_93, ↓za_94, ↓zs_94, ↓zl_94, ↓za_95, ↓zs_95, ↓zl_95, ↓za_96, ↓zs_96, ↓zl_96, ↓za_97, ↓zs_97, ↓zl_97, ↓za_98, ↓zs_98, ↓zl_98, ↓za_99, ↓zs_99, ↓zl_99, ↓za_100, ↓zs_100, ↓zl_100, ↓za_101, ↓zs_101, ↓zl_101, ↓za_102, ↓zs_102, ↓zl_102, ↓za_103, ↓zs_103, ↓zl_103, ↓za_104, ↓zs_104, ↓zl_104, ↓za_105, ↓zs_105, ↓zl_105, ↓za_106, ↓zs_106, ↓zl_106, ↓za_107, ↓zs_107, ↓zl_107, ↓za_108, ↓zs_108, ↓zl_108, ↓za_109, ↓zs_109, ↓zl_109, hand_id, n01, n05, ob, Nat.zero_le, Nat.not_lt_zero, i10, i01, i12, i21, i20, i02, nl_le1, nl_le2, nl_lt1, nl_lt2, nl_eq1, nl_eq2, nn_le, nn_lt, nn_eq, nl_m1, m1_nl, z_lt, z_le, z_le2, z_lt2, z_eq, nI_l1, nI_l2, nI_l3, nI_l4, nI_add, nI_mul_, tn_n, tn_l, bI_0, bI_1, bI_z, bI_t, bI_f, Bool.false_eq_true, Bool.true_eq_false, eq_self, if_true, if_false, ↓reduceIte, reduceCtorEq, not_true_eq_false, not_false_eq_true, stI_s, stJ_s, ri_p, ri_k, ri_j, ri_1, ri_2, rj_i, rj_1, rj_2, rj_p, rj_k]
  · have := m_moveNow c1 hz h8 x y
    rw [e1] at this
    exact this
