/-! calls that change the row, the stand, what can be undone -/
def PG (p j : Nat) : Bool := PZ p j || decide (2 ≤ p ∧ p ≤ 10 ∨ p = 16 ∨ p = 17 ∨ p = 18 ∨ p = 82 ∧ j < 90 ∨ p = 85 ∨ p = 86 ∨ p = 80 ∧ j = 8)
theorem PG_no {p j : Nat} (h : PZ p j = false) (h2 : ¬ (2 ≤ p ∧ p ≤ 10 ∨ p = 16 ∨ p = 17 ∨ p = 18 ∨ p = 82 ∧ j < 90 ∨ p = 85 ∨ p = 86 ∨ p = 80 ∧ j = 8)) : PG p j = false := by
  unfold PG
  rw [h, decide_eq_false h2]
  rfl
def PGc (p j : Nat) : Bool := PG p j && decide (p < 80 ∧ ¬ (p = 53 ∨ p = 0 ∧ j = 14))
def PGm (p j : Nat) : Bool := PG p j && decide ((80 ≤ p ∧ p < 110) ∧ ¬ (p = 81 ∨ p = 80 ∧ j = 1))
theorem PGc_F {p j : Nat} (h1 : 80 ≤ p) (_ : p < 110) : PGc p j = false := by
  unfold PGc
  rw [decide_eq_false (show ¬ (p < 80 ∧ ¬ (p = 53 ∨ p = 0 ∧ j = 14)) by omega), Bool.and_false]
theorem PGm_F {p j : Nat} (h : p < 80 ∨ 110 ≤ p) : PGm p j = false := by
  unfold PGm
  rw [decide_eq_false (show ¬ ((80 ≤ p ∧ p < 110) ∧ ¬ (p = 81 ∨ p = 80 ∧ j = 1)) by omega), Bool.and_false]
theorem PGc_G (p j : Nat) (h : PGc p j = true) : PG p j = true := by
  unfold PGc at h
  rw [Bool.and_eq_true] at h
  exact h.1
theorem PGm_G (p j : Nat) (h : PGm p j = true) : PG p j = true := by
  unfold PGm at h
  rw [Bool.and_eq_true] at h
  exact h.1
theorem PA0_G (p j : Nat) (h : PA0 p j = true) : PG p j = true := by
  unfold PG
  rw [PZc_Z p j (PA0_Zc p j h)]
  rfl
theorem PB0_G (p j : Nat) (h : PB0 p j = true) : PG p j = true := by
  unfold PG
  rw [PZm_Z p j (PB0_Zm p j h)]
  rfl
theorem PGc_of {p j : Nat} (h : PZ p j = true ∨ (2 ≤ p ∧ p ≤ 10 ∨ p = 16 ∨ p = 17 ∨ p = 18)) (h2 : p < 80 ∧ ¬ (p = 53 ∨ p = 0 ∧ j = 14)) : PGc p j = true := by
  unfold PGc PG
  rw [decide_eq_true h2, Bool.and_true, Bool.or_eq_true]
  rcases h with h | h
  · exact Or.inl h
  · exact Or.inr (decide_eq_true (by omega))
theorem PGm_of {p j : Nat} (h : PZ p j = true ∨ (p = 82 ∧ j < 90 ∨ p = 85 ∨ p = 86 ∨ p = 80 ∧ j = 8)) (h2 : (80 ≤ p ∧ p < 110) ∧ ¬ (p = 81 ∨ p = 80 ∧ j = 1)) : PGm p j = true := by
  unfold PGm PG
  rw [decide_eq_true h2, Bool.and_true, Bool.or_eq_true]
  rcases h with h | h
  · exact Or.inl h
  · exact Or.inr (decide_eq_true (by omega))
theorem LwS.row {h : AH} {q nl : Nat} {r r' : Nat → Int32} (k : LwS h q r nl) (hn : nl ≤ 6) (e : ∀ j, 90 ≤ j → r' j = r j) : LwS h q r' nl := by
  refine ⟨fun i hi => ?_, k.2⟩
  obtain ⟨p, n, f, a, b, c, d⟩ := k.1 i hi
  exact ⟨p, n, f, a, b, c, d.cong (by omega) fun j hj => e _ (by omega)⟩
theorem Rel0.g {h h' : AH} {nb nm nh nl nb' nm' nh' : Nat} (k : Rel0 h nb nm nh nl) (e : Eqv PG h h') (b : Bd (h'.2.1 82) nb' nm' nh' nl) (bt : BdT (h'.2.1 82)) (st : StX h' 3 (h'.2.1 82)) (ro : RoX h' 2 (h'.2.1 82)) (rp : RgP (h'.2.1 17) (h'.2.1 18) (h'.2.1 16 2) (h'.2.1 16 3) (h'.2.1 85) (h'.2.1 86) (h'.2.1 80 8) (h'.2.1 82)) : Rel0 h' nb' nm' nh' nl := by
  obtain ⟨k1, k2, ⟨k3, k4⟩, ⟨k5, k6⟩, k7, ⟨k8, k9⟩, k10, k11, k12, k13⟩ := k
  have o : OldE h h' := OldE.of e fun q j l => PG_no (PZ_law q j l) (by unfold LawP at l; omega)
  have row : ∀ p, (∀ j, PG p j = false) → h'.2.1 p = h.2.1 p := fun p hp => funext fun j => e.i p j (hp j)
  have im : ∀ p j, 54 ≤ p → p ≤ 75 → ¬ (p = 63 ∨ p = 64 ∨ p = 65 ∨ p = 66) → PG p j = false := fun p j h1 h2 h3 => PG_no (decide_eq_false (by omega)) (by omega)
  refine ⟨b, bt, ⟨st, ro⟩, ⟨(k5.to o (fun i => e.rf 11 i)).row b.2.2.2.1.2 fun j hj => e.i 82 j (PG_no (decide_eq_false (by omega)) (by omega)), (e.i 12 3 rfl).trans k6⟩, rp, ⟨k8.to (by omega) o (fun p h1 h2 => row p fun j => im p j (by omega) (by omega) (by omega)) (row 83 fun j => PG_no (decide_eq_false (by omega)) (by omega)) (row 84 fun j => PG_no (decide_eq_false (by omega)) (by omega)) (fun i => e.rf _ i), k9.to (by omega) o (fun p h1 h2 => row p fun j => im p j (by omega) (by omega) (by omega)) (row 83 fun j => PG_no (decide_eq_false (by omega)) (by omega)) (row 84 fun j => PG_no (decide_eq_false (by omega)) (by omega)) (fun i => e.rf _ i)⟩, ?_, ?_, ?_, ?_⟩
  · unfold MyS
    rw [e.i 80 56 rfl, e.i 80 57 rfl, row 28 (fun j => PG_no (decide_eq_false (by omega)) (by omega)), row 29 (fun j => PG_no (decide_eq_false (by omega)) (by omega)), row 30 (fun j => PG_no (decide_eq_false (by omega)) (by omega)), row 31 (fun j => PG_no (decide_eq_false (by omega)) (by omega)), row 109 (fun j => PG_no (decide_eq_false (by omega)) (by omega))]
    exact k10
  · unfold TpS
    rw [e.i 0 1 rfl, e.i 80 13 rfl, row 1 (fun j => PG_no (decide_eq_false (by omega)) (by omega)), row 89 (fun j => PG_no (decide_eq_false (by omega)) (by omega))]
    exact k11
  · unfold ScS
    rw [e.i 0 15 rfl, e.i 0 16 rfl, e.i 0 17 rfl, e.i 80 18 rfl, e.i 80 11 rfl, e.i 80 52 rfl, e.i 80 20 rfl]
    exact k12
  · intro p hp
    rw [← k13 p hp]
    funext j
    exact e.l p j (PG_no (decide_eq_false (by omega)) (by omega))
/-- such a call on both sides -/
theorem bo_g {h : AH} {fx fm : AH → Option (Int32 × AH)} {v cc : Int32} {r' : Nat → Int32} {nb nm nh nl nb' nm' nh' : Nat} (A B : AH → Prop) (st : StS h) (k : Rel0 h nb nm nh nl) (b : Bd r' nb' nm' nh' nl) (bt : BdT r')
    (a : ∃ ha h1, fx h = some (v, h1) ∧ Eqv PGc h ha ∧ StX ha 3 r' ∧ RoX ha 2 r' ∧ Eqv PA0 ha h1 ∧ StC ha h1 cc ∧ A ha)
    (m : ∀ h1, ClF h h1 → ∃ hb h2, fm h1 = some (v, h2) ∧ Eqv PGm h1 hb ∧ hb.2.1 82 = r' ∧ Eqv PB0 hb h2 ∧ StM hb h2 cc ∧ B hb)
    (c : ∀ ha hb, A ha → B hb → RgP (ha.2.1 17) (ha.2.1 18) (ha.2.1 16 2) (ha.2.1 16 3) (hb.2.1 85) (hb.2.1 86) (hb.2.1 80 8) r') : Bo h fx fm := by
  obtain ⟨ha, h1, r1, ea, sx, rx, e1, s1, A1⟩ := a
  have F1 : ClF h h1 := (ClF.of ea fun p j => PGc_F).trans (ClF.of e1 fun p j => PA0_F)
  obtain ⟨hb, h2, r2, eb, rr, e2, s2, B1⟩ := m h1 F1
  have M2 : MoF h1 h2 := (MoF.of eb fun p j => PGm_F).trans (MoF.of e2 fun p j => PB0_F)
  have E : Eqv PG h h2 := (((ea.mono PGc_G).trans (e1.mono PA0_G)).trans (eb.mono PGm_G)).trans (e2.mono PB0_G)
  have w : ∀ p, p < 80 → p ≠ 0 → p ≠ 53 → h2.2.1 p = ha.2.1 p := fun p hp h0 h5 => funext fun j => ((M2.1 p j (by omega)).1).trans (e1.i p j (decide_eq_false (by omega)))
  have u : ∀ p j, 80 ≤ p → p < 110 → ¬ (p = 80 ∧ j = 1) → p ≠ 81 → h2.2.1 p j = hb.2.1 p j := fun p j _ _ h1 h2 => e2.i p j (decide_eq_false (by omega))
  have r82 : h2.2.1 82 = r' := (funext fun j => u 82 j (by omega) (by omega) (by omega) (by omega)).trans rr
  refine ⟨v, h1, h2, r1, r2, st.both (ha := ha) (hb := hb) (ea.row fun j => ?_) F1 s1 (eb.row fun j => ?_) M2 s2, nb', nm', nh', nl, k.g E (by rw [r82]; exact b) (by rw [r82]; exact bt) ?_ ?_ ?_⟩
  · unfold PGc
    rw [decide_eq_false (show ¬ (53 < 80 ∧ ¬ (53 = 53 ∨ 53 = 0 ∧ j = 14)) by omega), Bool.and_false]
  · unfold PGm
    rw [decide_eq_false (show ¬ ((80 ≤ 81 ∧ 81 < 110) ∧ ¬ (81 = 81 ∨ 81 = 80 ∧ j = 1)) by omega), Bool.and_false]
  · rw [r82]
    exact sx.rows (w 3 (by omega) (by omega) (by omega)) (w 4 (by omega) (by omega) (by omega)) (w 5 (by omega) (by omega) (by omega))
  · rw [r82]
    exact rx.rows fun d hd hd2 => w _ (by omega) (by omega) (by omega)
  · rw [r82, w 16 (by omega) (by omega) (by omega), w 17 (by omega) (by omega) (by omega), w 18 (by omega) (by omega) (by omega), u 80 8 (by omega) (by omega) (by omega) (by omega), show h2.2.1 85 = hb.2.1 85 from funext fun j => u 85 j (by omega) (by omega) (by omega) (by omega), show h2.2.1 86 = hb.2.1 86 from funext fun j => u 86 j (by omega) (by omega) (by omega) (by omega)]
    exact c ha hb A1 B1
/-- nothing can be undone -/
theorem RgP.clear (c a u s r : Nat → Int32) {x : Nat} (hx : x < 17) : RgP c a (nI x) 0 u s 0 r := ⟨0, x, by omega, hx, rfl, rfl, rfl, fun i hi => by omega⟩
theorem CM.cl {h h' : AH} {n nb nm : Nat} {f : Nat → Cl} (k : CM h n f nb nm) (e : ClF h h') : CM h' n f nb nm := k.z (funext fun j => (e 82 j (by omega) (by omega)).1) (e 80 20 (by omega) (by omega)).1
theorem ClF.r82 {h h' : AH} (e : ClF h h') : h'.2.1 82 = h.2.1 82 := funext fun j => (e 82 j (by omega) (by omega)).1
theorem bo_stay {h : AH} {fx fm : AH → Option (Int32 × AH)} {v : Int32} (k : Rel h) (hv : okV v) (h0 : ¬ 0 ≤ v) (a : fx h = (f_X10_refuse S_1 0 v h).bind fun z => match z with | (z, h') => some (z, h')) (b : ∀ h1, Eqv PZ h h1 → ∃ h2, Eqv PZm h1 h2 ∧ h2.2.1 81 = h1.2.1 81 ∧ fm h1 = (f_X11_tell S_1 80 v h2).bind fun z => match z with | (z, h') => some (z, h')) : Bo h fx fm := by
  refine both_s (v := v) k ?_ fun h1 e1 => ?_
  · rw [a]
    obtain ⟨h', r1, e1⟩ := QsC.ref (h := h) hv h0
    rw [bs_ r1]
    exact ⟨h', rfl, e1⟩
  · obtain ⟨h2, e2, e81, r2⟩ := b h1 e1
    rw [r2]
    obtain ⟨h', r3, e3⟩ := QsM.tell hv e2 e81
    rw [bs_ r3]
    exact ⟨h', rfl, e3⟩
