/-! one order, on both sides -/
def POc (p j : Nat) : Bool := PSt 3 p j || decide (p = 17 ∨ p = 18 ∨ p = 16 ∧ (j = 2 ∨ j = 3))
theorem PSt_Oc (p j : Nat) (h : PSt 3 p j = true) : POc p j = true := by unfold POc; rw [h]; rfl
theorem POc_o {p j : Nat} (h : p = 17 ∨ p = 18 ∨ p = 16 ∧ (j = 2 ∨ j = 3)) : POc p j = true := by
  unfold POc
  rw [Bool.or_eq_true]
  exact Or.inr (decide_eq_true h)
theorem POc_no {p j : Nat} (h : ¬ (32 ≤ p ∧ p ≤ 35 ∨ 3 ≤ p ∧ p ≤ 5 ∨ 16 ≤ p ∧ p ≤ 18)) : POc p j = false := by
  unfold POc
  rw [PSt3_n (by omega) (by omega), decide_eq_false (by omega)]
  rfl
theorem q_actF2 {h : AH} {r r' : Nat → Int32} {p n nb nm x z t : Nat} {f : Nat → Cl} {v : Int32} {done : Bool} {Xf : AH → Option (Int32 × AH)} (ct : Ct h 3 r p n f nb nm) (hx : x < 17) (hz : z ≤ 16) (h2 : h.2.1 16 2 = nI x) (h3 : h.2.1 16 3 = nI z) (hX : ∀ h1, Ct h1 3 r p n f nb nm → ∃ h', Xf h1 = some (v, h') ∧ Eqv (PSt 3) h1 h' ∧ StX h' 3 r') (hd : (v < 0) = (done = false)) (ag : Ag r r') : ∃ ha, actF t Xf h = some (v, ha) ∧ Eqv POc h ha ∧ Ct ha 3 r' p n f nb nm ∧ ActA h ha x z t done r := by
  obtain ⟨h1, q1, e1, n1⟩ := q_note hx h2 ct.2.1
  have c1 : Ct h1 3 r p n f nb nm := ct.mv (Or.inl rfl) e1 P17_o (ct.2.1.rows (e1.row fun j => rfl) (e1.row fun j => rfl) (e1.row fun j => rfl)) (Ag.refl r)
  obtain ⟨h4, q4, e4, s4⟩ := hX h1 c1
  have c4 : Ct h4 3 r' p n f nb nm := c1.mv (Or.inl rfl) e4 PSt3_o s4 ag
  have P1 : ∀ p j, P17 p j = true → POc p j = true := fun p j e => by
    have e := of_decide_eq_true e
    exact POc_o (by omega)
  have E4 : Eqv POc h h4 := (e1.mono P1).trans (e4.mono PSt_Oc)
  have row17 : h4.2.1 17 = h1.2.1 17 := e4.row fun j => PSt3_n (by omega) (by omega)
  have row18 : h4.2.1 18 = h.2.1 18 := (e4.row fun j => PSt3_n (by omega) (by omega)).trans (e1.row fun j => rfl)
  have g2 : h4.2.1 16 2 = h.2.1 16 2 := (e4.i 16 2 rfl).trans (e1.i 16 2 rfl)
  have g3 : h4.2.1 16 3 = h.2.1 16 3 := (e4.i 16 3 rfl).trans (e1.i 16 3 rfl)
  unfold actF
  rw [bs_ q1]
  dsimp only
  rw [bs_ q4]
  dsimp only
  cases done with
  | false =>
    rw [if_pos (by rw [hd])]
    exact ⟨h4, rfl, E4, c4, by rw [row17]; exact n1, fun e => (by cases e), fun _ => ⟨row18, g2, g3⟩⟩
  | true =>
    rw [if_neg (by rw [hd]; decide)]
    obtain ⟨h5, q5, e5, k1, k2, k3⟩ := q_keep (h := h4) hx hz (g2.trans h2) (g3.trans h3) (nI t)
    rw [bs_ q5]
    have P5 : ∀ p j, (fun p j => decide (p = 18 ∨ p = 16 ∧ (j = 2 ∨ j = 3))) p j = true → POc p j = true := fun p j e => by
      have e := of_decide_eq_true e
      exact POc_o (by omega)
    refine ⟨h5, rfl, E4.trans (e5.mono P5), c4.mv (Or.inl rfl) e5 (fun q j l => decide_eq_false (by unfold LawP at l; omega)) (s4.rows (e5.row fun j => decide_eq_false (by omega)) (e5.row fun j => decide_eq_false (by omega)) (e5.row fun j => decide_eq_false (by omega))) (Ag.refl r'), by rw [e5.row (p := 17) fun j => decide_eq_false (by omega), row17]; exact n1, fun _ => ⟨fun j => ?_, k2, k3⟩, fun e => (by cases e)⟩
    rw [k1, row18]
theorem LawM.ag {h h' : AH} {L n : Nat} {f : Nat → Cl} (k : LawM h L n f) (hL : 90 ≤ L) (hL2 : L ≤ 4590) (ag : Ag (h.2.1 82) (h'.2.1 82)) : LawM h' L n f := by
  rw [LawR_M] at k ⊢
  exact k.cong hL2 fun j hj => ag _ (by omega) (by omega)
theorem CM.ag {h h' : AH} {n nb nm : Nat} {f : Nat → Cl} (k : CM h n f nb nm) (ag : Ag (h.2.1 82) (h'.2.1 82)) (e20 : h'.2.1 80 20 = h.2.1 80 20) : CM h' n f nb nm := by
  obtain ⟨k1, k2, k3, k4, k5, k6⟩ := k
  refine ⟨?_, e20.trans k2, (ag _ (by omega) (by omega)).trans k3, k4, (ag _ (by omega) (by omega)).trans k5, k6⟩
  rcases k1 with ⟨a, b⟩ | ⟨i, hi, a, b⟩
  · exact Or.inl ⟨(ag _ (by omega) (by omega)).trans a, b⟩
  · exact Or.inr ⟨i, hi, (ag _ (by omega) (by omega)).trans a, b.ag (by omega) (by omega) ag⟩
/-- how both stand while orders are run -/
def OS (p n : Nat) (f : Nat → Cl) (nb nm : Nat) (r : Nat → Int32) (hx hm : AH) : Prop := Ct hx 3 r p n f nb nm ∧ CM hm n f nb nm ∧ hm.2.1 82 = r ∧ BdT r ∧ (∀ m, m < nm → 1 ≤ r (72 + m) ∧ r (72 + m) ≤ 9) ∧ RgP (hx.2.1 17) (hx.2.1 18) (hx.2.1 16 2) (hx.2.1 16 3) (hm.2.1 85) (hm.2.1 86) (hm.2.1 80 8) r
def AcB (p n : Nat) (f : Nat → Cl) (nb nm : Nat) (r : Nat → Int32) (hx hm : AH) (X M : Option (Int32 × AH)) : Prop := ∃ v hx' hm', X = some (v, hx') ∧ M = some (v, hm') ∧ Eqv POc hx hx' ∧ Eqv PD hm hm' ∧ Ag r (hm'.2.1 82) ∧ (0 ≤ v → OS p n f nb nm (hm'.2.1 82) hx' hm')
theorem act_gen {hx hm : AH} {nb nm p n t : Nat} {r r' : Nat → Int32} {f : Nat → Cl} {v : Int32} {done : Bool} {Xf Nf : AH → Option (Int32 × AH)} (os : OS p n f nb nm r hx hm) (ht : t < 4)
    (hX : ∀ h1, Ct h1 3 r p n f nb nm → ∃ h', Xf h1 = some (v, h') ∧ Eqv (PSt 3) h1 h' ∧ StX h' 3 r')
    (hN : ∀ z, z ≤ 16 → hm.2.1 80 8 = nI z → ∃ h', Nf hm = some (v, h') ∧ Eqv PD hm h' ∧ h'.2.1 82 = r' ∧ (done = true → UPush hm h' z t) ∧ (done = false → Eqv PT hm h'))
    (hd : (v < 0) = (done = false)) (ag : Ag r r') (bt : BdT r') : AcB p n f nb nm r hx hm (actF t Xf hx) (Nf hm) := by
  obtain ⟨ct, cm, er, bt0, bc, z, x, hz, hx', e3, e2, e8, rz⟩ := os
  obtain ⟨ha, qa, ea, ca, aa⟩ := q_actF2 (t := t) ct hx' hz e2 e3 hX hd ag
  obtain ⟨hb, qb, eb, rb, u1, u2⟩ := hN z hz e8
  refine ⟨v, ha, hb, qa, qb, ea, eb, by rw [rb]; exact ag, fun hv => ?_⟩
  have dn : done = true := by
    cases e : done with
    | true => rfl
    | false =>
      rw [e] at hd
      exact absurd (hd.mpr rfl) (Int32.not_lt.mpr hv)
  have PD20 : PD 80 20 = false := rfl
  rw [rb]
  refine ⟨ca, cm.ag (by rw [er, rb]; exact ag) (eb.i 80 20 PD20), rb, bt, fun m hm' => ?_, ?_⟩
  · rw [ag _ (by omega) (by omega)]
    exact bc m hm'
  · subst dn
    obtain ⟨a1, a2, a3⟩ := aa.2.1 rfl
    have rz' : RgZ z x (hx.2.1 17) (hx.2.1 18) (hm.2.1 85) (hm.2.1 86) (hm.2.1 82) := by rw [er]; exact rz
    have g6 := ag 6 (by omega) (by omega)
    have g7 := ag 7 (by omega) (by omega)
    have g8 := ag 8 (by omega) (by omega)
    rw [← er] at g6 g7 g8
    exact rg_push hz hx' ht rz' (by rw [er]; exact bt0) (by rw [er]; exact aa.1) a1 a2 a3 (u1 rfl) g6 g7 g8
theorem act_move {hx hm : AH} {nb nm p n : Nat} {r : Nat → Int32} {f : Nat → Cl} (os : OS p n f nb nm r hx hm) (x y : Int32) : AcB p n f nb nm r hx hm (actF 0 (fun h => f_X1_moving S_1 35 3 x y h) hx) (f_X11_moveNow S_1 80 x y hm) := by
  obtain ⟨ct, cm, er, bt0, bc, rp⟩ := id os
  have h7 := cm.2.2.2.1
  have h6 := cm.2.2.2.2.2
  have hd : (mvV r n f nb nm x y < 0) = (mvD r n f nb nm x y = false) := by
    unfold mvV mvD
    cases e : inb x nm && inb y nb with
    | false => simp
    | true =>
      cases ec : mvC r n f nb x.toNatClampNeg y.toNatClampNeg with
      | false => simp
      | true =>
        have es : secS r n f nb x.toNatClampNeg y.toNatClampNeg ≠ -1 := by
          unfold mvC at ec
          rw [Bool.and_eq_true, Bool.and_eq_true] at ec
          exact of_decide_eq_true ec.2.2
        simp [Int32.not_lt.mpr (sec_pos h7 es)]
  have rr : mvN r n f nb nm x y = r ∨ ∃ m, m < 6 ∧ mvN r n f nb nm x y = rset r (17 + m) 1 := by
    unfold mvN
    by_cases e : (inb x nm && inb y nb && mvC r n f nb x.toNatClampNeg y.toNatClampNeg) = true
    · rw [if_pos e]
      rw [Bool.and_eq_true, Bool.and_eq_true] at e
      obtain ⟨m, hm, rfl⟩ := inb_of (by omega) e.1.1
      exact Or.inr ⟨m, by omega, by rw [tn_n (show m < 2 ^ 31 by omega)]⟩
    · rw [if_neg e]
      exact Or.inl rfl
  have bt : BdT (mvN r n f nb nm x y) := by
    rcases rr with e | ⟨m, hm, e⟩
    · rw [e]; exact bt0
    · rw [e]
      obtain ⟨a1, a2, a3, a4⟩ := bt0
      refine ⟨by rw [rset_n _ _ (by omega)]; exact a1, by rw [rset_n _ _ (by omega)]; exact a2, fun j hj => by rw [rset_n _ _ (by omega)]; exact a3 j hj, fun j hj => ?_⟩
      by_cases ej : 17 + j = 17 + m
      · rw [ej, rset_s]
        exact ⟨by decide, by decide⟩
      · rw [rset_n _ _ ej]; exact a4 j hj
  refine act_gen (t := 0) (done := mvD r n f nb nm x y) (Nf := fun h => f_X11_moveNow S_1 80 x y h) os (by omega) (fun h1 c1 => c1.moving x y) (fun z hz h8 => ?_) hd (mvN_ag r n f h6 x y) bt
  have := m_moveNow cm hz h8 x y
  rw [er] at this
  exact this
theorem act_divide {hx hm : AH} {nb nm p n : Nat} {r : Nat → Int32} {f : Nat → Cl} (os : OS p n f nb nm r hx hm) (x : Int32) : AcB p n f nb nm r hx hm (actF 1 (fun h => f_X1_dividing S_1 35 3 x h) hx) (f_X11_divideNow S_1 80 x hm) := by
  obtain ⟨ct, cm, er, bt0, bc, rp⟩ := id os
  have h7 := cm.2.2.2.1
  have h6 := cm.2.2.2.2.2
  have hd : (dvV r n f nb nm x < 0) = (dvD r n f nb nm x = false) := by
    unfold dvD
    cases e : inb x nm with
    | false =>
      unfold dvV
      rw [e]
      simp
    | true =>
      obtain ⟨m, hm, rfl⟩ := inb_of (by omega) e
      rw [dvV_pos h7 (by omega) hm, tn_n (show m < 2 ^ 31 by omega)]
      simp
  have rr : dvN r n f nb nm x = r ∨ ∃ m, m < 6 ∧ cdS r n f nb m = true ∧ dvN r n f nb nm x = dvR r n f nb m := by
    unfold dvN
    by_cases e : (inb x nm && cdS r n f nb x.toNatClampNeg) = true
    · rw [if_pos e]
      rw [Bool.and_eq_true] at e
      obtain ⟨m, hm, rfl⟩ := inb_of (by omega) e.1
      rw [tn_n (show m < 2 ^ 31 by omega)] at e ⊢
      exact Or.inr ⟨m, by omega, e.2, rfl⟩
    · rw [if_neg e]
      exact Or.inl rfl
  have bt : BdT (dvN r n f nb nm x) := by
    rcases rr with e | ⟨m, hm, ec, e⟩
    · rw [e]; exact bt0
    · rw [e]; exact cd_bt bt0 hm ec
  refine act_gen (t := 1) (done := dvD r n f nb nm x) (Nf := fun h => f_X11_divideNow S_1 80 x h) os (by omega) (fun h1 c1 => c1.dividing x bc) (fun z hz h8 => ?_) hd (dvN_ag r n f h6 x) bt
  have := m_divideNow cm hz h8 x
  rw [er] at this
  exact this
theorem act_fly {hx hm : AH} {nb nm p n : Nat} {r : Nat → Int32} {f : Nat → Cl} (os : OS p n f nb nm r hx hm) (x t : Int32) : AcB p n f nb nm r hx hm (actF 2 (fun h => f_X1_flying S_1 35 3 x t h) hx) (f_X11_flyNow S_1 80 x t hm) := by
  obtain ⟨ct, cm, er, bt0, bc, rp⟩ := id os
  have h7 := cm.2.2.2.1
  have tr : ∀ b, b < 7 → r (10 + b) ≠ -1 → 0 ≤ r (10 + b) := fun b hb e => by
    have rr := (bt0.2.2.1 b hb).1
    have e1 : (-1 : Int32).toInt = -1 := by decide
    have e0 : (0 : Int32).toInt = 0 := by decide
    have r' := Int32.le_iff_toInt_le.mp rr
    have ne : ¬ (r (10 + b)).toInt = (-1 : Int32).toInt := fun z => e (Int32.toInt_inj.mp z)
    rw [Int32.le_iff_toInt_le]
    omega
  have val : (flD r nb x t = true ∧ 0 ≤ flV r nb x t) ∨ (flD r nb x t = false ∧ (flV r nb x t = -1 ∨ flV r nb x t = -2 ∨ flV r nb x t = -3)) := by
    unfold flD flV
    cases e1 : okT t with
    | false => exact Or.inr ⟨rfl, Or.inl rfl⟩
    | true =>
      cases e2 : inb x nb with
      | false => exact Or.inr ⟨rfl, Or.inr (Or.inl rfl)⟩
      | true =>
        obtain ⟨b, hb, rfl⟩ := inb_of h7 e2
        rw [tn_n (show b < 2 ^ 31 by omega)]
        by_cases e3 : r (10 + b) = t
        · refine Or.inr ⟨by simp [e3], Or.inr (Or.inr ?_)⟩
          simp [e3]
        · refine Or.inl ⟨by simp [e3], ?_⟩
          by_cases e4 : r (10 + b) = -1
          · have : ¬ (-1 : Int32) = t := fun z => e3 (e4.trans z)
            simp [e4, this]
          · simp [e3, e4]
            exact tr b (by omega) e4
  have hd : (flV r nb x t < 0) = (flD r nb x t = false) := by
    rcases val with ⟨a, b⟩ | ⟨a, b⟩
    · rw [a]
      simp [Int32.not_lt.mpr b]
    · rw [a]
      rcases b with b | b | b <;> rw [b] <;> decide
  have rr : flN r nb x t = r ∨ ∃ b, b < 7 ∧ okT t = true ∧ flN r nb x t = rset r (10 + b) t := by
    unfold flN
    by_cases e : (okT t && (inb x nb && decide (r (10 + x.toNatClampNeg) ≠ t))) = true
    · rw [if_pos e]
      rw [Bool.and_eq_true, Bool.and_eq_true] at e
      obtain ⟨b, hb, rfl⟩ := inb_of h7 e.2.1
      exact Or.inr ⟨b, by omega, e.1, by rw [tn_n (show b < 2 ^ 31 by omega)]⟩
    · rw [if_neg e]
      exact Or.inl rfl
  have bt : BdT (flN r nb x t) := by
    rcases rr with e | ⟨m, hm, ht, e⟩
    · rw [e]; exact bt0
    · rw [e]
      obtain ⟨a1, a2, a3, a4⟩ := bt0
      refine ⟨by rw [rset_n _ _ (by omega)]; exact a1, by rw [rset_n _ _ (by omega)]; exact a2, fun j hj => ?_, fun j hj => by rw [rset_n _ _ (by omega)]; exact a4 j hj⟩
      by_cases ej : 10 + j = 10 + m
      · rw [ej, rset_s]
        exact (of_decide_eq_true ht : -1 ≤ t ∧ t ≤ 19)
      · rw [rset_n _ _ ej]; exact a3 j hj
  refine act_gen (t := 2) (done := flD r nb x t) (Nf := fun h => f_X11_flyNow S_1 80 x t h) os (by omega) (fun h1 c1 => c1.flying x t) (fun z hz h8 => ?_) hd (flN_ag r h7 x t) bt
  have := m_flyNow cm hz h8 x t
  rw [er] at this
  exact this
theorem act_pass {hx hm : AH} {nb nm p n : Nat} {r : Nat → Int32} {f : Nat → Cl} (os : OS p n f nb nm r hx hm) : AcB p n f nb nm r hx hm (actF 3 (fun h => f_X1_passing S_1 35 3 h) hx) (f_X11_passNow S_1 80 hm) := by
  obtain ⟨ct, cm, er, bt0, bc, rp⟩ := id os
  have h6 := cm.2.2.2.2.2
  obtain ⟨c5, hc5, e5⟩ := rg_nI (n := 999) (by decide) bt0.1
  obtain ⟨t, ht, et⟩ := howM_n nm (fun m => decide (r (17 + m) ≠ 2))
  have hd : (psV r nm < 0) = (psD r = false) := by
    unfold psV psD
    by_cases e : r 5 < 999
    · rw [if_pos e, et, decide_eq_true e, z_lt (by omega)]
      simp
    · rw [if_neg e, decide_eq_false e]
      decide
  have bt : BdT (psN r nm) := by
    unfold psN
    by_cases e : r 5 < 999
    · rw [if_pos e]
      obtain ⟨a1, a2, a3, a4⟩ := bt0
      have lt : c5 < 999 := by
        rw [e5] at e
        exact (nI_ltI (by omega) (by decide)).mp e
      refine ⟨?_, (⟨by decide, by decide⟩ : rg (0 : Int32) 0 48), fun j hj => ?_, fun j hj => ?_⟩
      · show rg (if 5 = 5 then r 5 + 1 else _) 0 999
        rw [if_pos rfl, e5, nI_1]
        exact rg_of_nI (n := 999) (by decide) (by omega)
      · unfold psR
        rw [if_neg (by omega), if_neg (by omega), if_neg (by omega)]
        exact a3 j hj
      · unfold psR
        rw [if_neg (by omega), if_neg (by omega)]
        by_cases ej : 17 ≤ 17 + j ∧ 17 + j < 17 + nm ∧ r (17 + j) ≠ 2
        · rw [if_pos ej]; exact ⟨by decide, by decide⟩
        · rw [if_neg ej]; exact a4 j hj
    · rw [if_neg e]; exact bt0
  refine act_gen (t := 3) (done := psD r) (Nf := fun h => f_X11_passNow S_1 80 h) os (by omega) (fun h1 c1 => c1.passing) (fun z hz h8 => ?_) hd (psN_ag r h6) bt
  have := m_passNow cm hz h8 (by rw [er]; exact bt0.1.2)
  rw [er] at this
  exact this
/-- the act that an order tells, with what it was told on either side -/
theorem act_all {hx hm : AH} {nb nm p n k : Nat} {r : Nat → Int32} {f : Nat → Cl} (os : OS p n f nb nm r hx hm) (hk : 266 ≤ k ∧ k ≤ 269) (x y x' y' : Int32) (h1 : k ≠ 269 → x = x') (h2 : k = 266 ∨ k = 268 → y = y') : AcB p n f nb nm r hx hm (f_X10_act S_1 0 (nI k) x y hx) (f_X11_act S_1 80 (nI (k - 266)) x' y' hm) := by
  have hand : ∀ X : Option (Int32 × AH), (X.bind fun z => match z with | (a, b) => some (a, b)) = X := fun X => by
    rcases X with _ | ⟨a, b⟩ <;> rfl
  have : k = 266 ∨ k = 267 ∨ k = 268 ∨ k = 269 := by omega
  rcases this with rfl | rfl | rfl | rfl
  · have e1 := h1 (by decide)
    have e2 := h2 (by decide)
    subst e1 e2
    have q := act_move os x y
    rw [show f_X10_act S_1 0 (nI 266) x y hx = actF 0 (fun h => f_X1_moving S_1 35 3 x y h) hx by
      show f_X10_act S_1 0 (266 : Int32) x y hx = _
      unfold f_X10_act actF
      simp (disch := first | rfl | decide | omega | (simp (disch := first | omega | decide) only [nI_l1, nI_l2, nI_l3, nI_l4, nI_add, nI_mul_]; exact ix_n (by omega) (by omega)) | (exact ix_n (by omega) (by omega)) | (exact ix_l (by decide) (by decide)) | assumption) only [i266, show ((266 : Int32) = 266) = True from eq_true rfl, ↓zI, ↓zP, ↓zZ, ↓zC, ↓zJ, ↓zQ, ↓zE, ↓zK, ↓zF, ↓zD, ↓zr_0_0, ↓zr_0_2, ↓zr_0_3, ↓zr_0_4, ↓zr_0_5, ↓zr_0_6, ↓zr_0_7, ↓zr_0_8, ↓zr_0_9, ↓zr_0_10, ↓zr_0_11, ↓zr_0_12, ↓zr_0_13, ↓zr_2_0, ↓zr_2_2, ↓zr_2_3, ↓zr_2_5, ↓zr_2_6, ↓zr_2_11, ↓zr_2_13, ↓zr_2_14, ↓zr_3_0, ↓zr_3_1, ↓zr_12_0, ↓zr_12_1, ↓zr_16_0, ↓zr_16_1, ↓zr_19_0, ↓zr_19_1, ↓zr_22_0, ↓zr_22_1, ↓zr_25_0, ↓zr_25_1, ↓zr_28_0, ↓zr_29_0, ↓zr_29_1, ↓zr_32_0, ↓zr_32_1, ↓zr_35_0, ↓zr_35_1, ↓zr_35_4, ↓zr_35_5, ↓zr_38_0, ↓zr_38_1, ↓zr_38_2, ↓zr_38_3, ↓zr_38_4, ↓zr_39_0, ↓zr_39_1, ↓zr_45_0, ↓zr_45_1, ↓zr_46_0, ↓zr_46_1, ↓zr_46_2, ↓zr_50_0, ↓zr_50_1, ↓zr_54_0, ↓zr_54_2, ↓zr_54_3, ↓zr_54_5, ↓zr_54_6, ↓zr_54_11, ↓zr_54_13, ↓zr_54_14, ↓zr_55_0, ↓zr_55_1, ↓zr_64_0, ↓zr_64_1, ↓zr_67_0, ↓zr_67_2, ↓zr_67_3, ↓zr_67_5, ↓zr_67_6, ↓zr_67_11, ↓zr_67_13, ↓zr_67_14, ↓zr_68_0, ↓zr_68_1, ↓zr_77_0, ↓zr_77_1, ↓zr_80_2, ↓zr_80_3, ↓zr_80_4, ↓zr_80_5, ↓zr_80_6, ↓zr_80_7, ↓zr_80_9, ↓zr_80_10, ↓zr_80_12, ↓zr_80_22, ↓zr_80_24, ↓zr_80_25, ↓zr_80_27, ↓zr_80_28, ↓zr_80_31, ↓zr_80_32, ↓zr_80_33, ↓zr_80_35, ↓zr_80_36, ↓zr_80_37, ↓zr_80_41, ↓zr_80_42, ↓zr_80_43, ↓zr_80_44, ↓zr_80_46, ↓zr_80_47, ↓zr_80_48, ↓zr_80_49, ↓zr_80_55, ↓za_1, ↓zs_1, ↓zl_1, ↓za_4, ↓zs_4, ↓zl_4, ↓za_5, ↓zs_5, ↓zl_5, ↓za_6, ↓zs_6, ↓zl_6, ↓za_7, ↓zs_7, ↓zl_7, ↓za_8, ↓zs_8, ↓zl_8, ↓za_9, ↓zs_9, ↓zl_9, ↓za_10, ↓zs_10, ↓zl_10, ↓za_17, ↓zs_17, ↓zl_17, ↓za_18, ↓zs_18, ↓zl_18, ↓za_20, ↓zs_20, ↓zl_20, ↓za_21, ↓zs_21, ↓zl_21, ↓za_23, ↓zs_23, ↓zl_23, ↓za_24, ↓zs_24, ↓zl_24, ↓za_26, ↓zs_26, ↓zl_26, ↓za_27, ↓zs_27, ↓zl_27, ↓za_30, ↓zs_30, ↓zl_30, ↓za_31, ↓zs_31, ↓zl_31, ↓za_33, ↓zs_33, ↓zl_33, ↓za_34, ↓zs_34, ↓zl_34, ↓za_36, ↓zs_36, ↓zl_36, ↓za_37, ↓zs_37, ↓zl_37, ↓za_40, ↓zs_40, ↓zl_40, ↓za_41, ↓zs_41, ↓zl_41, ↓za_42, ↓zs_42, ↓zl_42, ↓za_43, ↓zs_43, ↓zl_43, ↓za_44, ↓zs_44, ↓zl_44, ↓za_47, ↓zs_47, ↓zl_47, ↓za_48, ↓zs_48, ↓zl_48, ↓za_49, ↓zs_49, ↓zl_49, ↓za_51, ↓zs_51, ↓zl_51, ↓za_52, ↓zs_52, ↓zl_52, ↓za_53, ↓zs_53, ↓zl_53, ↓za_56, ↓zs_56, ↓zl_56, ↓za_57, ↓zs_57, ↓zl_57, ↓za_58, ↓zs_58, ↓zl_58, ↓za_59, ↓zs_59, ↓zl_59, ↓za_60, ↓zs_60, ↓zl_60, ↓za_61, ↓zs_61, ↓zl_61, ↓za_62, ↓zs_62, ↓zl_62, ↓za_69, ↓zs_69, ↓zl_69, ↓za_70, ↓zs_70, ↓zl_70, ↓za_71, ↓zs_71, ↓zl_71, ↓za_72, ↓zs_72, ↓zl_72, ↓za_73, ↓zs_73, ↓zl_73, ↓za_74, ↓zs_74, ↓zl_74, ↓za_75, ↓zs_75, ↓zl_75, ↓za_81, ↓zs_81, ↓zl_81, ↓za_82, ↓zs_82, ↓zl_82, ↓za_83, ↓zs_83, ↓zl_83, ↓za_84, ↓zs_84, ↓zl_84, ↓za_85, ↓zs_85, ↓zl_85, ↓za_86, ↓zs_86, ↓zl_86, ↓za_87, ↓zs_87, ↓zl_87, ↓za_88, ↓zs_88, ↓zl_88, ↓za_89, ↓zs_89, ↓zl_89, ↓za_90, ↓zs_90, ↓zl_90, ↓za_91, ↓zs_91, ↓zl_91, ↓za_92, ↓zs_92, ↓zl_92, ↓za_93, ↓zs_93, ↓zl_93, ↓za_94, ↓zs_94, ↓zl_94, ↓za_95, ↓zs_95, ↓zl_95, ↓za_96, ↓zs_96, ↓zl_96, ↓za_97, ↓zs_97, ↓zl_97, ↓za_98, ↓zs_98, ↓zl_98, ↓za_99, ↓zs_99, ↓zl_99, ↓za_100, ↓zs_100, ↓zl_100, ↓za_101, ↓zs_101, ↓zl_101, ↓za_102, ↓zs_102, ↓zl_102, ↓za_103, ↓zs_103, ↓zl_103, ↓za_104, ↓zs_104, ↓zl_104, ↓za_105, ↓zs_105, ↓zl_105, ↓za_106, ↓zs_106, ↓zl_106, ↓za_107, ↓zs_107, ↓zl_107, ↓za_108, ↓zs_108, ↓zl_108, ↓za_109, ↓zs_109, ↓zl_109, hand_id, n01, n05, ob, Nat.zero_le, Nat.not_lt_zero, i10, i01, i12, i21, i20, i02, nl_le1, nl_le2, nl_lt1, nl_lt2, nl_eq1, nl_eq2, nn_le, nn_lt, nn_eq, nl_m1, m1_nl, z_lt, z_le, z_le2, z_lt2, z_eq, nI_l1, nI_l2, nI_l3, nI_l4, nI_add, nI_mul_, tn_n, tn_l, bI_0, bI_1, bI_z, bI_t, bI_f, Bool.false_eq_true, Bool.true_eq_false, eq_self, if_true, if_false, ↓reduceIte, reduceCtorEq, not_true_eq_false, not_false_eq_true, stI_s, stJ_s, ri_p, ri_k, ri_j, ri_1, ri_2, rj_i, rj_1, rj_2, rj_p, rj_k]
      , show f_X11_act S_1 80 (nI (266 - 266)) x y hm = f_X11_moveNow S_1 80 x y hm by
      show f_X11_act S_1 80 (0 : Int32) x y hm = _
      unfold f_X11_act
      rw [if_pos rfl, bs_ (ck_80 hm)]
      exact hand _]
    exact q
  · have e1 := h1 (by decide)
    subst e1
    have q := act_divide os x
    rw [show f_X10_act S_1 0 (nI 267) x y hx = actF 1 (fun h => f_X1_dividing S_1 35 3 x h) hx by
      show f_X10_act S_1 0 (267 : Int32) x y hx = _
      unfold f_X10_act actF
      simp (disch := first | rfl | decide | omega | (simp (disch := first | omega | decide) only [nI_l1, nI_l2, nI_l3, nI_l4, nI_add, nI_mul_]; exact ix_n (by omega) (by omega)) | (exact ix_n (by omega) (by omega)) | (exact ix_l (by decide) (by decide)) | assumption) only [show ((267 : Int32) = 266) = False from by decide, show ((267 : Int32) = 267) = True from eq_true rfl, i267, ↓zI, ↓zP, ↓zZ, ↓zC, ↓zJ, ↓zQ, ↓zE, ↓zK, ↓zF, ↓zD, ↓zr_0_0, ↓zr_0_2, ↓zr_0_3, ↓zr_0_4, ↓zr_0_5, ↓zr_0_6, ↓zr_0_7, ↓zr_0_8, ↓zr_0_9, ↓zr_0_10, ↓zr_0_11, ↓zr_0_12, ↓zr_0_13, ↓zr_2_0, ↓zr_2_2, ↓zr_2_3, ↓zr_2_5, ↓zr_2_6, ↓zr_2_11, ↓zr_2_13, ↓zr_2_14, ↓zr_3_0, ↓zr_3_1, ↓zr_12_0, ↓zr_12_1, ↓zr_16_0, ↓zr_16_1, ↓zr_19_0, ↓zr_19_1, ↓zr_22_0, ↓zr_22_1, ↓zr_25_0, ↓zr_25_1, ↓zr_28_0, ↓zr_29_0, ↓zr_29_1, ↓zr_32_0, ↓zr_32_1, ↓zr_35_0, ↓zr_35_1, ↓zr_35_4, ↓zr_35_5, ↓zr_38_0, ↓zr_38_1, ↓zr_38_2, ↓zr_38_3, ↓zr_38_4, ↓zr_39_0, ↓zr_39_1, ↓zr_45_0, ↓zr_45_1, ↓zr_46_0, ↓zr_46_1, ↓zr_46_2, ↓zr_50_0, ↓zr_50_1, ↓zr_54_0, ↓zr_54_2, ↓zr_54_3, ↓zr_54_5, ↓zr_54_6, ↓zr_54_11, ↓zr_54_13, ↓zr_54_14, ↓zr_55_0, ↓zr_55_1, ↓zr_64_0, ↓zr_64_1, ↓zr_67_0, ↓zr_67_2, ↓zr_67_3, ↓zr_67_5, ↓zr_67_6, ↓zr_67_11, ↓zr_67_13, ↓zr_67_14, ↓zr_68_0, ↓zr_68_1, ↓zr_77_0, ↓zr_77_1, ↓zr_80_2, ↓zr_80_3, ↓zr_80_4, ↓zr_80_5, ↓zr_80_6, ↓zr_80_7, ↓zr_80_9, ↓zr_80_10, ↓zr_80_12, ↓zr_80_22, ↓zr_80_24, ↓zr_80_25, ↓zr_80_27, ↓zr_80_28, ↓zr_80_31, ↓zr_80_32, ↓zr_80_33, ↓zr_80_35, ↓zr_80_36, ↓zr_80_37, ↓zr_80_41, ↓zr_80_42, ↓zr_80_43, ↓zr_80_44, ↓zr_80_46, ↓zr_80_47, ↓zr_80_48, ↓zr_80_49, ↓zr_80_55, ↓za_1, ↓zs_1, ↓zl_1, ↓za_4, ↓zs_4, ↓zl_4, ↓za_5, ↓zs_5, ↓zl_5, ↓za_6, ↓zs_6, ↓zl_6, ↓za_7, ↓zs_7, ↓zl_7, ↓za_8, ↓zs_8, ↓zl_8, ↓za_9, ↓zs_9, ↓zl_9, ↓za_10, ↓zs_10, ↓zl_10, ↓za_17, ↓zs_17, ↓zl_17, ↓za_18, ↓zs_18, ↓zl_18, ↓za_20, ↓zs_20, ↓zl_20, ↓za_21, ↓zs_21, ↓zl_21, ↓za_23, ↓zs_23, ↓zl_23, ↓za_24, ↓zs_24, ↓zl_24, ↓za_26, ↓zs_26, ↓zl_26, ↓za_27, ↓zs_27, ↓zl_27, ↓za_30, ↓zs_30, ↓zl_30, ↓za_31, ↓zs_31, ↓zl_31, ↓za_33, ↓zs_33, ↓zl_33, ↓za_34, ↓zs_34, ↓zl_34, ↓za_36, ↓zs_36, ↓zl_36, ↓za_37, ↓zs_37, ↓zl_37, ↓za_40, ↓zs_40, ↓zl_40, ↓za_41, ↓zs_41, ↓zl_41, ↓za_42, ↓zs_42, ↓zl_42, ↓za_43, ↓zs_43, ↓zl_43, ↓za_44, ↓zs_44, ↓zl_44, ↓za_47, ↓zs_47, ↓zl_47, ↓za_48, ↓zs_48, ↓zl_48, ↓za_49, ↓zs_49, ↓zl_49, ↓za_51, ↓zs_51, ↓zl_51, ↓za_52, ↓zs_52, ↓zl_52, ↓za_53, ↓zs_53, ↓zl_53, ↓za_56, ↓zs_56, ↓zl_56, ↓za_57, ↓zs_57, ↓zl_57, ↓za_58, ↓zs_58, ↓zl_58, ↓za_59, ↓zs_59, ↓zl_59, ↓za_60, ↓zs_60, ↓zl_60, ↓za_61, ↓zs_61, ↓zl_61, ↓za_62, ↓zs_62, ↓zl_62, ↓za_69, ↓zs_69, ↓zl_69, ↓za_70, ↓zs_70, ↓zl_70, ↓za_71, ↓zs_71, ↓zl_71, ↓za_72, ↓zs_72, ↓zl_72, ↓za_73, ↓zs_73, ↓zl_73, ↓za_74, ↓zs_74, ↓zl_74, ↓za_75, ↓zs_75, ↓zl_75, ↓za_81, ↓zs_81, ↓zl_81, ↓za_82, ↓zs_82, ↓zl_82, ↓za_83, ↓zs_83, ↓zl_83, ↓za_84, ↓zs_84, ↓zl_84, ↓za_85, ↓zs_85, ↓zl_85, ↓za_86, ↓zs_86, ↓zl_86, ↓za_87, ↓zs_87, ↓zl_87, ↓za_88, ↓zs_88, ↓zl_88, ↓za_89, ↓zs_89, ↓zl_89, ↓za_90, ↓zs_90, ↓zl_90, ↓za_91, ↓zs_91, ↓zl_91, ↓za_92, ↓zs_92, ↓zl_92, ↓za_93, ↓zs_93, ↓zl_93, ↓za_94, ↓zs_94, ↓zl_94, ↓za_95, ↓zs_95, ↓zl_95, ↓za_96, ↓zs_96, ↓zl_96, ↓za_97, ↓zs_97, ↓zl_97, ↓za_98, ↓zs_98, ↓zl_98, ↓za_99, ↓zs_99, ↓zl_99, ↓za_100, ↓zs_100, ↓zl_100, ↓za_101, ↓zs_101, ↓zl_101, ↓za_102, ↓zs_102, ↓zl_102, ↓za_103, ↓zs_103, ↓zl_103, ↓za_104, ↓zs_104, ↓zl_104, ↓za_105, ↓zs_105, ↓zl_105, ↓za_106, ↓zs_106, ↓zl_106, ↓za_107, ↓zs_107, ↓zl_107, ↓za_108, ↓zs_108, ↓zl_108, ↓za_109, ↓zs_109, ↓zl_109, hand_id, n01, n05, ob, Nat.zero_le, Nat.not_lt_zero, i10, i01, i12, i21, i20, i02, nl_le1, nl_le2, nl_lt1, nl_lt2, nl_eq1, nl_eq2, nn_le, nn_lt, nn_eq, nl_m1, m1_nl, z_lt, z_le, z_le2, z_lt2, z_eq, nI_l1, nI_l2, nI_l3, nI_l4, nI_add, nI_mul_, tn_n, tn_l, bI_0, bI_1, bI_z, bI_t, bI_f, Bool.false_eq_true, Bool.true_eq_false, eq_self, if_true, if_false, ↓reduceIte, reduceCtorEq, not_true_eq_false, not_false_eq_true, stI_s, stJ_s, ri_p, ri_k, ri_j, ri_1, ri_2, rj_i, rj_1, rj_2, rj_p, rj_k]
      , show f_X11_act S_1 80 (nI (267 - 266)) x y' hm = f_X11_divideNow S_1 80 x hm by
      show f_X11_act S_1 80 (1 : Int32) x y' hm = _
      unfold f_X11_act
      rw [if_neg (by decide), if_pos rfl, bs_ (ck_80 hm)]
      exact hand _]
    exact q
  · have e1 := h1 (by decide)
    have e2 := h2 (by decide)
    subst e1 e2
    have q := act_fly os x y
    rw [show f_X10_act S_1 0 (nI 268) x y hx = actF 2 (fun h => f_X1_flying S_1 35 3 x y h) hx by
      show f_X10_act S_1 0 (268 : Int32) x y hx = _
      unfold f_X10_act actF
      simp (disch := first | rfl | decide | omega | (simp (disch := first | omega | decide) only [nI_l1, nI_l2, nI_l3, nI_l4, nI_add, nI_mul_]; exact ix_n (by omega) (by omega)) | (exact ix_n (by omega) (by omega)) | (exact ix_l (by decide) (by decide)) | assumption) only [show ((268 : Int32) = 266) = False from by decide, show ((268 : Int32) = 267) = False from by decide, show ((268 : Int32) = 268) = True from eq_true rfl, i268, ↓zI, ↓zP, ↓zZ, ↓zC, ↓zJ, ↓zQ, ↓zE, ↓zK, ↓zF, ↓zD, ↓zr_0_0, ↓zr_0_2, ↓zr_0_3, ↓zr_0_4, ↓zr_0_5, ↓zr_0_6, ↓zr_0_7, ↓zr_0_8, ↓zr_0_9, ↓zr_0_10, ↓zr_0_11, ↓zr_0_12, ↓zr_0_13, ↓zr_2_0, ↓zr_2_2, ↓zr_2_3, ↓zr_2_5, ↓zr_2_6, ↓zr_2_11, ↓zr_2_13, ↓zr_2_14, ↓zr_3_0, ↓zr_3_1, ↓zr_12_0, ↓zr_12_1, ↓zr_16_0, ↓zr_16_1, ↓zr_19_0, ↓zr_19_1, ↓zr_22_0, ↓zr_22_1, ↓zr_25_0, ↓zr_25_1, ↓zr_28_0, ↓zr_29_0, ↓zr_29_1, ↓zr_32_0, ↓zr_32_1, ↓zr_35_0, ↓zr_35_1, ↓zr_35_4, ↓zr_35_5, ↓zr_38_0, ↓zr_38_1, ↓zr_38_2, ↓zr_38_3, ↓zr_38_4, ↓zr_39_0, ↓zr_39_1, ↓zr_45_0, ↓zr_45_1, ↓zr_46_0, ↓zr_46_1, ↓zr_46_2, ↓zr_50_0, ↓zr_50_1, ↓zr_54_0, ↓zr_54_2, ↓zr_54_3, ↓zr_54_5, ↓zr_54_6, ↓zr_54_11, ↓zr_54_13, ↓zr_54_14, ↓zr_55_0, ↓zr_55_1, ↓zr_64_0, ↓zr_64_1, ↓zr_67_0, ↓zr_67_2, ↓zr_67_3, ↓zr_67_5, ↓zr_67_6, ↓zr_67_11, ↓zr_67_13, ↓zr_67_14, ↓zr_68_0, ↓zr_68_1, ↓zr_77_0, ↓zr_77_1, ↓zr_80_2, ↓zr_80_3, ↓zr_80_4, ↓zr_80_5, ↓zr_80_6, ↓zr_80_7, ↓zr_80_9, ↓zr_80_10, ↓zr_80_12, ↓zr_80_22, ↓zr_80_24, ↓zr_80_25, ↓zr_80_27, ↓zr_80_28, ↓zr_80_31, ↓zr_80_32, ↓zr_80_33, ↓zr_80_35, ↓zr_80_36, ↓zr_80_37, ↓zr_80_41, ↓zr_80_42, ↓zr_80_43, ↓zr_80_44, ↓zr_80_46, ↓zr_80_47, ↓zr_80_48, ↓zr_80_49, ↓zr_80_55, ↓za_1, ↓zs_1, ↓zl_1, ↓za_4, ↓zs_4, ↓zl_4, ↓za_5, ↓zs_5, ↓zl_5, ↓za_6, ↓zs_6, ↓zl_6, ↓za_7, ↓zs_7, ↓zl_7, ↓za_8, ↓zs_8, ↓zl_8, ↓za_9, ↓zs_9, ↓zl_9, ↓za_10, ↓zs_10, ↓zl_10, ↓za_17, ↓zs_17, ↓zl_17, ↓za_18, ↓zs_18, ↓zl_18, ↓za_20, ↓zs_20, ↓zl_20, ↓za_21, ↓zs_21, ↓zl_21, ↓za_23, ↓zs_23, ↓zl_23, ↓za_24, ↓zs_24, ↓zl_24, ↓za_26, ↓zs_26, ↓zl_26, ↓za_27, ↓zs_27, ↓zl_27, ↓za_30, ↓zs_30, ↓zl_30, ↓za_31, ↓zs_31, ↓zl_31, ↓za_33, ↓zs_33, ↓zl_33, ↓za_34, ↓zs_34, ↓zl_34, ↓za_36, ↓zs_36, ↓zl_36, ↓za_37, ↓zs_37, ↓zl_37, ↓za_40, ↓zs_40, ↓zl_40, ↓za_41, ↓zs_41, ↓zl_41, ↓za_42, ↓zs_42, ↓zl_42, ↓za_43, ↓zs_43, ↓zl_43, ↓za_44, ↓zs_44, ↓zl_44, ↓za_47, ↓zs_47, ↓zl_47, ↓za_48, ↓zs_48, ↓zl_48, ↓za_49, ↓zs_49, ↓zl_49, ↓za_51, ↓zs_51, ↓zl_51, ↓za_52, ↓zs_52, ↓zl_52, ↓za_53, ↓zs_53, ↓zl_53, ↓za_56, ↓zs_56, ↓zl_56, ↓za_57, ↓zs_57, ↓zl_57, ↓za_58, ↓zs_58, ↓zl_58, ↓za_59, ↓zs_59, ↓zl_59, ↓za_60, ↓zs_60, ↓zl_60, ↓za_61, ↓zs_61, ↓zl_61, ↓za_62, ↓zs_62, ↓zl_62, ↓za_69, ↓zs_69, ↓zl_69, ↓za_70, ↓zs_70, ↓zl_70, ↓za_71, ↓zs_71, ↓zl_71, ↓za_72, ↓zs_72, ↓zl_72, ↓za_73, ↓zs_73, ↓zl_73, ↓za_74, ↓zs_74, ↓zl_74, ↓za_75, ↓zs_75, ↓zl_75, ↓za_81, ↓zs_81, ↓zl_81, ↓za_82, ↓zs_82, ↓zl_82, ↓za_83, ↓zs_83, ↓zl_83, ↓za_84, ↓zs_84, ↓zl_84, ↓za_85, ↓zs_85, ↓zl_85, ↓za_86, ↓zs_86, ↓zl_86, ↓za_87, ↓zs_87, ↓zl_87, ↓za_88, ↓zs_88, ↓zl_88, ↓za_89, ↓zs_89, ↓zl_89, ↓za_90, ↓zs_90, ↓zl_90, ↓za_91, ↓zs_91, ↓zl_91, ↓za_92, ↓zs_92, ↓zl_92, ↓za_93, ↓zs_93, ↓zl_93, ↓za_94, ↓zs_94, ↓zl_94, ↓za_95, ↓zs_95, ↓zl_95, ↓za_96, ↓zs_96, ↓zl_96, ↓za_97, ↓zs_97, ↓zl_97, ↓za_98, ↓zs_98, ↓zl_98, ↓za_99, ↓zs_99, ↓zl_99, ↓za_100, ↓zs_100, ↓zl_100, ↓za_101, ↓zs_101, ↓zl_101, ↓za_102, ↓zs_102, ↓zl_102, ↓za_103, ↓zs_103, ↓zl_103, ↓za_104, ↓zs_104, ↓zl_104, ↓za_105, ↓zs_105, ↓zl_105, ↓za_106, ↓zs_106, ↓zl_106, ↓za_107, ↓zs_107, ↓zl_107, ↓za_108, ↓zs_108, ↓zl_108, ↓za_109, ↓zs_109, ↓zl_109, hand_id, n01, n05, ob, Nat.zero_le, Nat.not_lt_zero, i10, i01, i12, i21, i20, i02, nl_le1, nl_le2, nl_lt1, nl_lt2, nl_eq1, nl_eq2, nn_le, nn_lt, nn_eq, nl_m1, m1_nl, z_lt, z_le, z_le2, z_lt2, z_eq, nI_l1, nI_l2, nI_l3, nI_l4, nI_add, nI_mul_, tn_n, tn_l, bI_0, bI_1, bI_z, bI_t, bI_f, Bool.false_eq_true, Bool.true_eq_false, eq_self, if_true, if_false, ↓reduceIte, reduceCtorEq, not_true_eq_false, not_false_eq_true, stI_s, stJ_s, ri_p, ri_k, ri_j, ri_1, ri_2, rj_i, rj_1, rj_2, rj_p, rj_k]
      , show f_X11_act S_1 80 (nI (268 - 266)) x y hm = f_X11_flyNow S_1 80 x y hm by
      show f_X11_act S_1 80 (2 : Int32) x y hm = _
      unfold f_X11_act
      rw [if_neg (by decide), if_neg (by decide), if_pos rfl, bs_ (ck_80 hm)]
      exact hand _]
    exact q
  · have q := act_pass os
    rw [show f_X10_act S_1 0 (nI 269) x y hx = actF 3 (fun h => f_X1_passing S_1 35 3 h) hx by
      show f_X10_act S_1 0 (269 : Int32) x y hx = _
      unfold f_X10_act actF
      simp (disch := first | rfl | decide | omega | (simp (disch := first | omega | decide) only [nI_l1, nI_l2, nI_l3, nI_l4, nI_add, nI_mul_]; exact ix_n (by omega) (by omega)) | (exact ix_n (by omega) (by omega)) | (exact ix_l (by decide) (by decide)) | assumption) only [show ((269 : Int32) = 266) = False from by decide, show ((269 : Int32) = 267) = False from by decide, show ((269 : Int32) = 268) = False from by decide, i269, ↓zI, ↓zP, ↓zZ, ↓zC, ↓zJ, ↓zQ, ↓zE, ↓zK, ↓zF, ↓zD, ↓zr_0_0, ↓zr_0_2, ↓zr_0_3, ↓zr_0_4, ↓zr_0_5, ↓zr_0_6, ↓zr_0_7, ↓zr_0_8, ↓zr_0_9, ↓zr_0_10, ↓zr_0_11, ↓zr_0_12, ↓zr_0_13, ↓zr_2_0, ↓zr_2_2, ↓zr_2_3, ↓zr_2_5, ↓zr_2_6, ↓zr_2_11, ↓zr_2_13, ↓zr_2_14, ↓zr_3_0, ↓zr_3_1, ↓zr_12_0, ↓zr_12_1, ↓zr_16_0, ↓zr_16_1, ↓zr_19_0, ↓zr_19_1, ↓zr_22_0, ↓zr_22_1, ↓zr_25_0, ↓zr_25_1, ↓zr_28_0, ↓zr_29_0, ↓zr_29_1, ↓zr_32_0, ↓zr_32_1, ↓zr_35_0, ↓zr_35_1, ↓zr_35_4, ↓zr_35_5, ↓zr_38_0, ↓zr_38_1, ↓zr_38_2, ↓zr_38_3, ↓zr_38_4, ↓zr_39_0, ↓zr_39_1, ↓zr_45_0, ↓zr_45_1, ↓zr_46_0, ↓zr_46_1, ↓zr_46_2, ↓zr_50_0, ↓zr_50_1, ↓zr_54_0, ↓zr_54_2, ↓zr_54_3, ↓zr_54_5, ↓zr_54_6, ↓zr_54_11, ↓zr_54_13, ↓zr_54_14, ↓zr_55_0, ↓zr_55_1, ↓zr_64_0, ↓zr_64_1, ↓zr_67_0, ↓zr_67_2, ↓zr_67_3, ↓zr_67_5, ↓zr_67_6, ↓zr_67_11, ↓zr_67_13, ↓zr_67_14, ↓zr_68_0, ↓zr_68_1, ↓zr_77_0, ↓zr_77_1, ↓zr_80_2, ↓zr_80_3, ↓zr_80_4, ↓zr_80_5, ↓zr_80_6, ↓zr_80_7, ↓zr_80_9, ↓zr_80_10, ↓zr_80_12, ↓zr_80_22, ↓zr_80_24, ↓zr_80_25, ↓zr_80_27, ↓zr_80_28, ↓zr_80_31, ↓zr_80_32, ↓zr_80_33, ↓zr_80_35, ↓zr_80_36, ↓zr_80_37, ↓zr_80_41, ↓zr_80_42, ↓zr_80_43, ↓zr_80_44, ↓zr_80_46, ↓zr_80_47, ↓zr_80_48, ↓zr_80_49, ↓zr_80_55, ↓za_1, ↓zs_1, ↓zl_1, ↓za_4, ↓zs_4, ↓zl_4, ↓za_5, ↓zs_5, ↓zl_5, ↓za_6, ↓zs_6, ↓zl_6, ↓za_7, ↓zs_7, ↓zl_7, ↓za_8, ↓zs_8, ↓zl_8, ↓za_9, ↓zs_9, ↓zl_9, ↓za_10, ↓zs_10, ↓zl_10, ↓za_17, ↓zs_17, ↓zl_17, ↓za_18, ↓zs_18, ↓zl_18, ↓za_20, ↓zs_20, ↓zl_20, ↓za_21, ↓zs_21, ↓zl_21, ↓za_23, ↓zs_23, ↓zl_23, ↓za_24, ↓zs_24, ↓zl_24, ↓za_26, ↓zs_26, ↓zl_26, ↓za_27, ↓zs_27, ↓zl_27, ↓za_30, ↓zs_30, ↓zl_30, ↓za_31, ↓zs_31, ↓zl_31, ↓za_33, ↓zs_33, ↓zl_33, ↓za_34, ↓zs_34, ↓zl_34, ↓za_36, ↓zs_36, ↓zl_36, ↓za_37, ↓zs_37, ↓zl_37, ↓za_40, ↓zs_40, ↓zl_40, ↓za_41, ↓zs_41, ↓zl_41, ↓za_42, ↓zs_42, ↓zl_42, ↓za_43, ↓zs_43, ↓zl_43, ↓za_44, ↓zs_44, ↓zl_44, ↓za_47, ↓zs_47, ↓zl_47, ↓za_48, ↓zs_48, ↓zl_48, ↓za_49, ↓zs_49, ↓zl_49, ↓za_51, ↓zs_51, ↓zl_51, ↓za_52, ↓zs_52, ↓zl_52, ↓za_53, ↓zs_53, ↓zl_53, ↓za_56, ↓zs_56, ↓zl_56, ↓za_57, ↓zs_57, ↓zl_57, ↓za_58, ↓zs_58, ↓zl_58, ↓za_59, ↓zs_59, ↓zl_59, ↓za_60, ↓zs_60, ↓zl_60, ↓za_61, ↓zs_61, ↓zl_61, ↓za_62, ↓zs_62, ↓zl_62, ↓za_69, ↓zs_69, ↓zl_69, ↓za_70, ↓zs_70, ↓zl_70, ↓za_71, ↓zs_71, ↓zl_71, ↓za_72, ↓zs_72, ↓zl_72, ↓za_73, ↓zs_73, ↓zl_73, ↓za_74, ↓zs_74, ↓zl_74, ↓za_75, ↓zs_75, ↓zl_75, ↓za_81, ↓zs_81, ↓zl_81, ↓za_82, ↓zs_82, ↓zl_82, ↓za_83, ↓zs_83, ↓zl_83, ↓za_84, ↓zs_84, ↓zl_84, ↓za_85, ↓zs_85, ↓zl_85, ↓za_86, ↓zs_86, ↓zl_86, ↓za_87, ↓zs_87, ↓zl_87, ↓za_88, ↓zs_88, ↓zl_88, ↓za_89, ↓zs_89, ↓zl_89, ↓za_90, ↓zs_90, ↓zl_90, ↓za_91, ↓zs_91, ↓zl_91, ↓za_92, ↓zs_92, ↓zl_92, ↓za_93, ↓zs_93, ↓zl_93, ↓za_94, ↓zs_94, ↓zl_94, ↓za_95, ↓zs_95, ↓zl_95, ↓za_96, ↓zs_96, ↓zl_96, ↓za_97, ↓zs_97, ↓zl_97, ↓za_98, ↓zs_98, ↓zl_98, ↓za_99, ↓zs_99, ↓zl_99, ↓za_100, ↓zs_100, ↓zl_100, ↓za_101, ↓zs_101, ↓zl_101, ↓za_102, ↓zs_102, ↓zl_102, ↓za_103, ↓zs_103, ↓zl_103, ↓za_104, ↓zs_104, ↓zl_104, ↓za_105, ↓zs_105, ↓zl_105, ↓za_106, ↓zs_106, ↓zl_106, ↓za_107, ↓zs_107, ↓zl_107, ↓za_108, ↓zs_108, ↓zl_108, ↓za_109, ↓zs_109, ↓zl_109, hand_id, n01, n05, ob, Nat.zero_le, Nat.not_lt_zero, i10, i01, i12, i21, i20, i02, nl_le1, nl_le2, nl_lt1, nl_lt2, nl_eq1, nl_eq2, nn_le, nn_lt, nn_eq, nl_m1, m1_nl, z_lt, z_le, z_le2, z_lt2, z_eq, nI_l1, nI_l2, nI_l3, nI_l4, nI_add, nI_mul_, tn_n, tn_l, bI_0, bI_1, bI_z, bI_t, bI_f, Bool.false_eq_true, Bool.true_eq_false, eq_self, if_true, if_false, ↓reduceIte, reduceCtorEq, not_true_eq_false, not_false_eq_true, stI_s, stJ_s, ri_p, ri_k, ri_j, ri_1, ri_2, rj_i, rj_1, rj_2, rj_p, rj_k]
      , show f_X11_act S_1 80 (nI (269 - 266)) x' y' hm = f_X11_passNow S_1 80 hm by
      show f_X11_act S_1 80 (3 : Int32) x' y' hm = _
      unfold f_X11_act
      rw [if_neg (by decide), if_neg (by decide), if_neg (by decide), bs_ (ck_80 hm)]
      exact hand _]
    exact q
