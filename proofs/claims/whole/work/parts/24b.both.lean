/-! what a call was refused by -/
def StC (h h' : AH) (v : Int32) : Prop := h'.2.1 0 14 = (if v < 0 then v else 0) ∧ ∀ j, j < 7 → h'.2.1 53 j = if v < 0 ∧ v = -nI j then h.2.1 53 j + 1 else h.2.1 53 j
def StM (h h' : AH) (v : Int32) : Prop := h'.2.1 80 1 = (if v < 0 then v else 0) ∧ ∀ j, j < 7 → h'.2.1 81 j = if v < 0 ∧ v = -nI j then h.2.1 81 j + 1 else h.2.1 81 j
def okV (v : Int32) : Prop := 0 ≤ v ∨ v = -1 ∨ v = -2 ∨ v = -3 ∨ v = -5 ∨ v = -6
theorem okV_no {v : Int32} (h : okV v) (h2 : ¬ 0 ≤ v) : ∃ j, j < 7 ∧ v = -nI j ∧ -v = nI j := by
  rcases h with h | h | h | h | h | h
  · exact absurd h h2
  · exact ⟨1, by decide, h, by rw [h]; rfl⟩
  · exact ⟨2, by decide, h, by rw [h]; rfl⟩
  · exact ⟨3, by decide, h, by rw [h]; rfl⟩
  · exact ⟨5, by decide, h, by rw [h]; rfl⟩
  · exact ⟨6, by decide, h, by rw [h]; rfl⟩
def PA0 (p j : Nat) : Bool := decide (p = 0 ∧ j = 14 ∨ p = 53)
def PB0 (p j : Nat) : Bool := decide (p = 80 ∧ j = 1 ∨ p = 81)
theorem neg_nI_inj {i j : Nat} (hi : i < 7) (hj : j < 7) : (-nI i = -nI j) ↔ (i = j) := by
  have : ∀ i, i < 7 → ∀ j, j < 7 → ((-nI i = -nI j) ↔ (i = j)) := by decide
  exact this i hi j hj
theorem q_accept (h : AH) (v : Int32) : ∃ h', f_X10_accept S_1 0 v h = some (v, h') ∧ Eqv PA0 h h' ∧ StC h h' 0 := by
  unfold f_X10_accept
  rw [bs_ (xi_0 h 14 _)]
  refine ⟨_, rfl, (Eqv.refl h).si rfl, ?_, fun j hj => ?_⟩
  · rw [stI_s, if_neg (by decide)]
  · rw [ri_p (by decide), if_neg (fun z => absurd z.1 (by decide))]
theorem StC.pos {h h' : AH} {v : Int32} (hv : 0 ≤ v) (s : StC h h' 0) : StC h h' v := by
  refine ⟨s.1.trans ?_, fun j hj => (s.2 j hj).trans ?_⟩
  · rw [if_neg (by decide), if_neg (Int32.not_lt.mpr hv)]
  · rw [if_neg (fun z => absurd z.1 (by decide)), if_neg (fun z => Int32.not_lt.mpr hv z.1)]
theorem StM.pos {h h' : AH} {v : Int32} (hv : 0 ≤ v) (s : StM h h' v) : StM h h' 0 := by
  refine ⟨s.1.trans ?_, fun j hj => (s.2 j hj).trans ?_⟩
  · rw [if_neg (Int32.not_lt.mpr hv), if_neg (by decide)]
  · rw [if_neg (fun z => Int32.not_lt.mpr hv z.1), if_neg (fun z => absurd z.1 (by decide))]
theorem q_refuse (h : AH) (v : Int32) (hv : okV v) (h0 : ¬ 0 ≤ v) : ∃ h', f_X10_refuse S_1 0 v h = some (v, h') ∧ Eqv PA0 h h' ∧ StC h h' v := by
  obtain ⟨j, hj, e1, e2⟩ := okV_no hv h0
  unfold f_X10_refuse
  rw [bs_ (xi_0 h 14 _), if_neg h0, bs_ (yr_0_13 _), bs_ (ln_53 _), e2, if_neg (by rw [nn_le (by decide) (by omega)]; omega), bs_ (yr_0_13 _), bs_ (ai_53 _ hj), bs_ (si_53 _ _ hj)]
  refine ⟨_, rfl, ((Eqv.refl h).si rfl).si rfl, ?_, fun i hi => ?_⟩
  · rw [ri_p (by decide), stI_s, if_pos (Int32.not_le.mp h0)]
  · rw [e1]
    by_cases e : i = j
    · subst e
      rw [stI_s, ri_p (by decide), if_pos ⟨by rw [← e1]; exact Int32.not_le.mp h0, rfl⟩]
    · rw [ri_k e, ri_p (by decide), if_neg (fun z => e ((neg_nI_inj hj hi).mp z.2).symm)]
theorem q_answer (h : AH) (v : Int32) (hv : okV v) : ∃ h', f_X10_answer S_1 0 v h = some (v, h') ∧ Eqv PA0 h h' ∧ StC h h' v := by
  unfold f_X10_answer
  by_cases h0 : 0 ≤ v
  · obtain ⟨h', r1, e1, s1⟩ := q_accept h v
    rw [if_pos h0, bs_ (ck_0 h), bs_ r1]
    exact ⟨h', rfl, e1, s1.pos h0⟩
  · obtain ⟨h', r1, e1, s1⟩ := q_refuse h v hv h0
    rw [if_neg h0, bs_ (ck_0 h), bs_ r1]
    exact ⟨h', rfl, e1, s1⟩
theorem m_tell (h : AH) (v : Int32) (hv : okV v) : ∃ h', f_X11_tell S_1 80 v h = some (v, h') ∧ Eqv PB0 h h' ∧ StM h h' v := by
  unfold f_X11_tell f_X11_tell_j10
  by_cases h0 : 0 ≤ v
  · rw [if_pos h0, bs_ (xi_80 h 1 _), if_pos h0]
    refine ⟨_, rfl, (Eqv.refl h).si rfl, ?_, fun j hj => ?_⟩
    · rw [stI_s, if_neg (Int32.not_lt.mpr h0)]
    · rw [ri_p (by decide), if_neg (fun z => Int32.not_lt.mpr h0 z.1)]
  · obtain ⟨j, hj, e1, e2⟩ := okV_no hv h0
    rw [if_neg h0, bs_ (xi_80 h 1 _), if_neg h0, bs_ (yr_80_2 _), e2, bs_ (ai_81 _ hj), bs_ (si_81 _ _ hj)]
    refine ⟨_, rfl, ((Eqv.refl h).si rfl).si rfl, ?_, fun i hi => ?_⟩
    · rw [ri_p (by decide), stI_s, if_pos (Int32.not_le.mp h0)]
    · rw [e1]
      by_cases e : i = j
      · subst e
        rw [stI_s, ri_p (by decide), if_pos ⟨by rw [← e1]; exact Int32.not_le.mp h0, rfl⟩]
      · rw [ri_k e, ri_p (by decide), if_neg (fun z => e ((neg_nI_inj hj hi).mp z.2).symm)]
/-- one side leaves the other's places alone -/
def ClF (h h' : AH) : Prop := ∀ p j, 80 ≤ p → p < 110 → h'.2.1 p j = h.2.1 p j ∧ h'.2.2.1 p j = h.2.2.1 p j
def MoF (h h' : AH) : Prop := (∀ p j, p < 80 ∨ 110 ≤ p → h'.2.1 p j = h.2.1 p j ∧ h'.2.2.1 p j = h.2.2.1 p j) ∧ h'.1 = h.1 ∧ h'.2.2.2 = h.2.2.2
theorem ClF.refl (h : AH) : ClF h h := fun _ _ _ _ => ⟨rfl, rfl⟩
theorem ClF.trans {h h1 h2 : AH} (a : ClF h h1) (b : ClF h1 h2) : ClF h h2 := fun p j x y => ⟨(b p j x y).1.trans (a p j x y).1, (b p j x y).2.trans (a p j x y).2⟩
theorem MoF.refl (h : AH) : MoF h h := ⟨fun _ _ _ => ⟨rfl, rfl⟩, rfl, rfl⟩
theorem MoF.trans {h h1 h2 : AH} (a : MoF h h1) (b : MoF h1 h2) : MoF h h2 := ⟨fun p j x => ⟨(b.1 p j x).1.trans (a.1 p j x).1, (b.1 p j x).2.trans (a.1 p j x).2⟩, b.2.1.trans a.2.1, b.2.2.trans a.2.2⟩
theorem ClF.of {P : Nat → Nat → Bool} {h h' : AH} (e : Eqv P h h') (hP : ∀ p j, 80 ≤ p → p < 110 → P p j = false) : ClF h h' := fun p j x y => ⟨e.i p j (hP p j x y), e.l p j (hP p j x y)⟩
theorem MoF.of {P : Nat → Nat → Bool} {h h' : AH} (e : Eqv P h h') (hP : ∀ p j, p < 80 ∨ 110 ≤ p → P p j = false) : MoF h h' := ⟨fun p j x => ⟨e.i p j (hP p j x), e.l p j (hP p j x)⟩, e.1, e.r⟩
theorem MoF.si {h h1 : AH} {p j : Nat} {v : Int32} (a : MoF h h1) (hp : 80 ≤ p ∧ p < 110) : MoF h (stI h1 p j v) := ⟨fun q i x => ⟨(ri_p (by omega)).trans (a.1 q i x).1, (a.1 q i x).2⟩, a.2.1, a.2.2⟩
theorem ClF.si {h h1 : AH} {p j : Nat} {v : Int32} (a : ClF h h1) (hp : p < 80 ∨ 110 ≤ p) : ClF h (stI h1 p j v) := fun q i x y => ⟨(ri_p (by omega)).trans (a q i x y).1, (a q i x y).2⟩
theorem PX_F {p j : Nat} (h1 : 80 ≤ p) (_ : p < 110) : PX p j = false := PX_no (by omega)
theorem PSt_F {s p j : Nat} (hs : s < 70) (h1 : 80 ≤ p) (_ : p < 110) : PSt s p j = false := by
  unfold PSt
  rw [PX_no (by omega)]
  exact decide_eq_false (by omega)
theorem PT_F {p j : Nat} (h : p < 80 ∨ 110 ≤ p) : PT p j = false := decide_eq_false (by omega)
theorem PD_F {p j : Nat} (h : p < 80 ∨ 110 ≤ p) : PD p j = false := by
  unfold PD
  rw [PT_F h, show PR p j = false from decide_eq_false (by omega)]
  exact decide_eq_false (by omega)
theorem PA0_F {p j : Nat} (h1 : 80 ≤ p) (_ : p < 110) : PA0 p j = false := decide_eq_false (by omega)
theorem PB0_F {p j : Nat} (h : p < 80 ∨ 110 ≤ p) : PB0 p j = false := decide_eq_false (by omega)
theorem StS.both {h ha h1 hb h2 : AH} {v : Int32} (k : StS h) (ca : ha.2.1 53 = h.2.1 53) (c1 : ClF h h1) (s1 : StC ha h1 v) (cb : hb.2.1 81 = h1.2.1 81) (m2 : MoF h1 h2) (s2 : StM hb h2 v) : StS h2 := by
  refine ⟨fun j hj => ?_, ?_⟩
  · rw [(m2.1 53 j (by omega)).1, s1.2 j hj, s2.2 j hj, ca, cb, (c1 81 j (by omega) (by omega)).1, k.1 j hj]
  · rw [(m2.1 0 14 (by omega)).1, s1.1, s2.1]
def PW0 (p j : Nat) : Bool := PZ p j && decide (¬ (p = 0 ∧ j = 14 ∨ p = 53 ∨ p = 80 ∧ j = 1 ∨ p = 81))
theorem PW0_Z (p j : Nat) (h : PW0 p j = true) : PZ p j = true := by
  unfold PW0 at h
  rw [Bool.and_eq_true] at h
  exact h.1
theorem PX_W0 (p j : Nat) (h : PX p j = true) : PW0 p j = true := by
  unfold PW0
  rw [PX_Z p j h]
  have h := of_decide_eq_true h
  exact decide_eq_true (by omega)
theorem PT_W0 (p j : Nat) (h : PT p j = true) : PW0 p j = true := by
  unfold PW0
  rw [PT_Z p j h]
  have h := of_decide_eq_true h
  exact decide_eq_true (by omega)
theorem StS.q {h h' : AH} (k : StS h) (e : Eqv PW0 h h') : StS h' := by
  have f : ∀ p j, (p = 0 ∧ j = 14 ∨ p = 53 ∨ p = 80 ∧ j = 1 ∨ p = 81) → PW0 p j = false := fun p j x => by
    unfold PW0
    rw [show decide (¬ (p = 0 ∧ j = 14 ∨ p = 53 ∨ p = 80 ∧ j = 1 ∨ p = 81)) = false from decide_eq_false (fun z => z x), Bool.and_false]
  refine ⟨fun j hj => ?_, ?_⟩
  · rw [e.i 53 j (f _ _ (by omega)), e.i 81 j (f _ _ (by omega)), k.1 j hj]
  · rw [e.i 0 14 (f _ _ (by omega)), e.i 80 1 (f _ _ (by omega)), k.2]
theorem Rel.q {h h' : AH} (k : Rel h) (e : Eqv PW0 h h') : Rel h' := by
  obtain ⟨k1, nb, nm, nh, nl, k2⟩ := k
  exact ⟨k1.q e, nb, nm, nh, nl, k2.z (e.mono PW0_Z)⟩
/-- a call on both sides: the same answer, and they go together again -/
def Bo {α : Type} (h : AH) (fx fm : AH → Option (α × AH)) : Prop := ∃ v h1 h2, fx h = some (v, h1) ∧ fm h1 = some (v, h2) ∧ Rel h2
theorem both_q {α : Type} {h : AH} {fx fm : AH → Option (α × AH)} {v : α} (k : Rel h) (a : Qy PW0 h (fx h) v) (b : ∀ h1, Eqv PW0 h h1 → Qy PW0 h1 (fm h1) v) : Bo h fx fm := by
  obtain ⟨h1, r1, e1⟩ := a
  obtain ⟨h2, r2, e2⟩ := b h1 e1
  exact ⟨v, h1, h2, r1, r2, k.q (e1.trans e2)⟩
def PZc (p j : Nat) : Bool := PZ p j && decide (p < 80)
def PZm (p j : Nat) : Bool := PZ p j && decide (80 ≤ p ∧ p < 110)
theorem PZc_Z (p j : Nat) (h : PZc p j = true) : PZ p j = true := by
  unfold PZc at h
  rw [Bool.and_eq_true] at h
  exact h.1
theorem PZm_Z (p j : Nat) (h : PZm p j = true) : PZ p j = true := by
  unfold PZm at h
  rw [Bool.and_eq_true] at h
  exact h.1
theorem PZc_F {p j : Nat} (h1 : 80 ≤ p) (_ : p < 110) : PZc p j = false := by
  unfold PZc
  rw [show decide (p < 80) = false from decide_eq_false (by omega), Bool.and_false]
theorem PZm_F {p j : Nat} (h : p < 80 ∨ 110 ≤ p) : PZm p j = false := by
  unfold PZm
  rw [show decide (80 ≤ p ∧ p < 110) = false from decide_eq_false (by omega), Bool.and_false]
theorem PA0_Zc (p j : Nat) (h : PA0 p j = true) : PZc p j = true := by
  have h := of_decide_eq_true h
  unfold PZc PZ
  rw [Bool.and_eq_true]
  exact ⟨decide_eq_true (by omega), decide_eq_true (by omega)⟩
theorem PB0_Zm (p j : Nat) (h : PB0 p j = true) : PZm p j = true := by
  have h := of_decide_eq_true h
  unfold PZm PZ
  rw [Bool.and_eq_true]
  exact ⟨decide_eq_true (by omega), decide_eq_true (by omega)⟩
/-- nothing but what it was refused by is told of it -/
def QsC (h : AH) (x : Option (Int32 × AH)) (v : Int32) : Prop := ∃ h1, x = some (v, h1) ∧ Eqv PZc h h1 ∧ StC h h1 v
def QsM (h : AH) (x : Option (Int32 × AH)) (v : Int32) : Prop := ∃ h1, x = some (v, h1) ∧ Eqv PZm h h1 ∧ StM h h1 v
theorem both_s {h : AH} {fx fm : AH → Option (Int32 × AH)} {v : Int32} (k : Rel h) (a : QsC h (fx h) v) (b : ∀ h1, Eqv PZ h h1 → QsM h1 (fm h1) v) : Bo h fx fm := by
  obtain ⟨h1, r1, e1, s1⟩ := a
  obtain ⟨h2, r2, e2, s2⟩ := b h1 (e1.mono PZc_Z)
  obtain ⟨k1, nb, nm, nh, nl, k2⟩ := k
  exact ⟨v, h1, h2, r1, r2, StS.both k1 rfl (ClF.of e1 fun p j => PZc_F) s1 rfl (MoF.of e2 fun p j => PZm_F) s2, nb, nm, nh, nl, (k2.z (e1.mono PZc_Z)).z (e2.mono PZm_Z)⟩
theorem QsC.ref {h : AH} {v : Int32} (hv : okV v) (h0 : ¬ 0 ≤ v) : QsC h (f_X10_refuse S_1 0 v h) v := by
  obtain ⟨h', r1, e1, s1⟩ := q_refuse h v hv h0
  exact ⟨h', r1, e1.mono PA0_Zc, s1⟩
theorem QsM.tell {h h0 : AH} {v : Int32} (hv : okV v) (e : Eqv PZm h0 h) (e81 : h.2.1 81 = h0.2.1 81) : QsM h0 (f_X11_tell S_1 80 v h) v := by
  obtain ⟨h', r1, e1, s1⟩ := m_tell h v hv
  refine ⟨h', r1, e.trans (e1.mono PB0_Zm), s1.1, fun j hj => ?_⟩
  rw [s1.2 j hj, e81]
