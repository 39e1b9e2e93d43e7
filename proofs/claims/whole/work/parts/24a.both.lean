/-! both sides together -/
def rg (x lo hi : Int32) : Prop := lo ≤ x ∧ x ≤ hi
def Bd (r : Nat → Int32) (nb nm nh nl : Nat) : Prop := (r 0 = nI nb ∧ nb ≤ 7) ∧ (r 1 = nI nm ∧ nm ≤ 6) ∧ (r 2 = nI nh ∧ nh ≤ 6) ∧ (r 3 = nI nl ∧ nl ≤ 6) ∧ (r 4 = -1 ∨ ∃ i, i < nl ∧ r 4 = nI i) ∧ (rg (r 6) 0 10 ∧ rg (r 7) 0 9 ∧ rg (r 8) 0 7) ∧ (∀ j, j < 7 → rg (r (23 + j)) 0 9) ∧ (∀ j, j < 42 → rg (r (30 + j)) 0 9) ∧ (∀ j, j < nm → rg (r (72 + j)) 1 9) ∧ (∀ j, j < 6 → rg (r (78 + j)) 0 9) ∧ (∀ j, j < 6 → rg (r (84 + j)) 0 7)
def BdT (r : Nat → Int32) : Prop := rg (r 5) 0 999 ∧ rg (r 9) 0 48 ∧ (∀ j, j < 7 → rg (r (10 + j)) (-1) 19) ∧ (∀ j, j < 6 → rg (r (17 + j)) 0 3)
def LawR (r : Nat → Int32) (L n : Nat) (f : Nat → Cl) : Prop := LawM (([], (fun _ => r), (fun _ _ => 0), (fun _ _ => none)) : AH) L n f
theorem LawR_M (h : AH) (L n : Nat) (f : Nat → Cl) : LawM h L n f = LawR (h.2.1 82) L n f := rfl
def LwS (h : AH) (q : Nat) (r : Nat → Int32) (nl : Nat) : Prop := (∀ i, i < nl → ∃ p n f, RF S_1 h q i = some p ∧ LawX h p n f ∧ FarX h p ∧ LawR r (90 + 900 * i) n f) ∧ ∀ i, i < 6 → ∀ y, RF S_1 h q i = some y → KD S_1 h y = some (0, 8)
def Snap (c u r : Nat → Int32) : Prop := (∀ j, j < 7 → c j = u (5 + j)) ∧ (∀ j, j < 6 → c (7 + j) = u (12 + j)) ∧ c 13 = u 4 ∧ c 14 = u 0 ∧ u 1 = r 6 ∧ u 2 = r 7 ∧ u 3 = r 8 ∧ BdT (fun j => u (j - 5))
def slot (x z i : Nat) : Nat := (x + 17 - z + i) % 17
def RgP (c a : Nat → Int32) (nx sz : Int32) (u s : Nat → Int32) (nu : Int32) (r : Nat → Int32) : Prop := ∃ z x, z ≤ 16 ∧ x < 17 ∧ sz = nI z ∧ nx = nI x ∧ nu = nI z ∧ ∀ i, i < z → Snap (fun j => c (15 * slot x z i + j)) (fun j => u (18 * i + j)) r ∧ a (slot x z i) = s i ∧ ∃ k, k < 4 ∧ s i = nI k
def ImS (h : AH) (k : Nat) : Prop := h.2.1 (54 + 13 * k) 16 = h.2.1 84 k ∧ (h.2.1 84 k = 0 ∨ h.2.1 84 k = 1 ∧ ∃ nb nm nh nl, StX h (55 + 13 * k) (fun j => h.2.1 83 (5490 * k + j)) ∧ RoX h (54 + 13 * k) (fun j => h.2.1 83 (5490 * k + j)) ∧ Bd (fun j => h.2.1 83 (5490 * k + j)) nb nm nh nl ∧ BdT (fun j => h.2.1 83 (5490 * k + j)) ∧ LwS h (63 + 13 * k) (fun j => h.2.1 83 (5490 * k + j)) nl)
def MyS (h : AH) : Prop := (h.2.1 80 56 = -1 ∧ h.2.1 28 2 = 0) ∨ ∃ nb nm, h.2.1 28 1 = nI nb ∧ h.2.1 80 56 = nI nb ∧ nb ≤ 7 ∧ h.2.1 28 2 = nI nm ∧ h.2.1 80 57 = nI nm ∧ 1 ≤ nm ∧ nm ≤ 6 ∧ (∀ j, j < 7 → h.2.1 30 j = h.2.1 109 (5 + j)) ∧ (∀ j, j < 6 → h.2.1 31 j = h.2.1 109 (12 + j)) ∧ h.2.1 29 2 = h.2.1 109 4 ∧ h.2.1 29 3 = h.2.1 109 0
def TpS (h : AH) : Prop := ∃ t, t ≤ 400 ∧ h.2.1 0 1 = nI t ∧ h.2.1 80 13 = nI t ∧ ∀ j, j < 400 → h.2.1 1 j = h.2.1 89 j ∧ rg (h.2.1 89 j) 0 255
def ScS (h : AH) : Prop := h.2.1 0 15 = h.2.1 80 18 ∧ h.2.1 0 16 = h.2.1 80 11 ∧ h.2.1 0 17 = h.2.1 80 52 ∧ h.2.1 80 20 = 0
def CnS (h : AH) : Prop := ∀ p, p = 95 ∨ p = 96 ∨ p = 97 ∨ p = 107 → h.2.2.1 p = H_5.2.2.1 p
/-- all but what calls were refused by -/
def Rel0 (h : AH) (nb nm nh nl : Nat) : Prop := Bd (h.2.1 82) nb nm nh nl ∧ BdT (h.2.1 82) ∧ (StX h 3 (h.2.1 82) ∧ RoX h 2 (h.2.1 82)) ∧ (LwS h 11 (h.2.1 82) nl ∧ h.2.1 12 3 = 0) ∧ RgP (h.2.1 17) (h.2.1 18) (h.2.1 16 2) (h.2.1 16 3) (h.2.1 85) (h.2.1 86) (h.2.1 80 8) (h.2.1 82) ∧ (ImS h 0 ∧ ImS h 1) ∧ MyS h ∧ TpS h ∧ ScS h ∧ CnS h
def StS (h : AH) : Prop := (∀ j, j < 7 → h.2.1 53 j = h.2.1 81 j) ∧ h.2.1 0 14 = h.2.1 80 1
def Rel (h : AH) : Prop := StS h ∧ ∃ nb nm nh nl, Rel0 h nb nm nh nl
/-- what is no part of it -/
def PZ (p j : Nat) : Bool := decide (p = 0 ∧ (j = 0 ∨ 2 ≤ j ∧ j ≤ 14 ∨ 18 ≤ j) ∨ 19 ≤ p ∧ p ≤ 27 ∨ 32 ≤ p ∧ p ≤ 53 ∨ p = 80 ∧ (j ≤ 7 ∨ j = 9 ∨ j = 10 ∨ j = 12 ∨ 14 ≤ j ∧ j ≤ 17 ∨ j = 19 ∨ 21 ≤ j ∧ j ≤ 51 ∨ 53 ≤ j ∧ j ≤ 55) ∨ p = 81 ∨ p = 85 ∧ 288 ≤ j ∨ p = 87 ∨ p = 88 ∨ 90 ≤ p ∧ p ≤ 94 ∨ 98 ≤ p ∧ p ≤ 106 ∨ p = 108)
theorem PZ_law (q j : Nat) (l : LawP q) : PZ q j = false := by
  unfold LawP at l
  exact decide_eq_false (by omega)
theorem LwS.to {h h' : AH} {q nl : Nat} {r : Nat → Int32} (k : LwS h q r nl) (o : OldE h h') (hr : ∀ i, RF S_1 h' q i = RF S_1 h q i) : LwS h' q r nl := by
  refine ⟨fun i hi => ?_, fun i hi y hy => o.1 _ _ (k.2 i hi y ((hr i).symm.trans hy))⟩
  obtain ⟨p, n, f, a, b, c, d⟩ := k.1 i hi
  exact ⟨p, n, f, (hr i).trans a, b.to c o, c.to b.2.1 o, d⟩
theorem StX.rows {h h' : AH} {s : Nat} {r : Nat → Int32} (k : StX h s r) (e0 : h'.2.1 s = h.2.1 s) (e1 : h'.2.1 (s + 1) = h.2.1 (s + 1)) (e2 : h'.2.1 (s + 2) = h.2.1 (s + 2)) : StX h' s r := by
  unfold StX
  rw [e0, e1, e2]
  exact k
theorem RoX.rows {h h' : AH} {s : Nat} {r : Nat → Int32} (k : RoX h s r) (e : ∀ d, d ≤ 8 → d = 0 ∨ 4 ≤ d → h'.2.1 (s + d) = h.2.1 (s + d)) : RoX h' s r := by
  unfold RoX
  rw [show h'.2.1 s = h.2.1 s from e 0 (by omega) (by omega), e 4 (by omega) (by omega), e 5 (by omega) (by omega), e 6 (by omega) (by omega), e 7 (by omega) (by omega), e 8 (by omega) (by omega)]
  exact k
theorem ImS.to {h h' : AH} {k : Nat} (hk : k < 2) (H : ImS h k) (o : OldE h h') (e : ∀ p, 54 + 13 * k ≤ p → p ≤ 62 + 13 * k → h'.2.1 p = h.2.1 p) (e3 : h'.2.1 83 = h.2.1 83) (e4 : h'.2.1 84 = h.2.1 84) (hr : ∀ i, RF S_1 h' (63 + 13 * k) i = RF S_1 h (63 + 13 * k) i) : ImS h' k := by
  unfold ImS
  rw [e (54 + 13 * k) (by omega) (by omega), e3, e4]
  refine ⟨H.1, H.2.imp id fun H => ⟨H.1, ?_⟩⟩
  obtain ⟨nb, nm, nh, nl, a, b, c, d, f⟩ := H.2
  exact ⟨nb, nm, nh, nl, a.rows (e _ (by omega) (by omega)) (e _ (by omega) (by omega)) (e _ (by omega) (by omega)), b.rows (fun d hd _ => e _ (by omega) (by omega)), c, d, f.to o hr⟩
theorem RgP.cong {c a u s c' a' u' s' : Nat → Int32} {nx sz nu : Int32} {r r' : Nat → Int32} (k : RgP c a nx sz u s nu r) (e1 : c' = c) (e2 : a' = a) (e3 : ∀ j, j < 288 → u' j = u j) (e4 : s' = s) (e6 : r' 6 = r 6) (e7 : r' 7 = r 7) (e8 : r' 8 = r 8) : RgP c' a' nx sz u' s' nu r' := by
  obtain ⟨z, x, hz, hx, s1, s2, s3, H⟩ := k
  refine ⟨z, x, hz, hx, s1, s2, s3, fun i hi => ?_⟩
  obtain ⟨⟨a1, a2, a3, a4, a5, a6, a7, b1, b2, b3, b4⟩, k2, k3⟩ := H i hi
  subst e1 e2 e4
  have E : ∀ j, j < 18 → u' (18 * i + j) = u (18 * i + j) := fun j hj => e3 _ (by omega)
  refine ⟨⟨fun j hj => (a1 j hj).trans (E _ (by omega)).symm, fun j hj => (a2 j hj).trans (E _ (by omega)).symm, a3.trans (E 4 (by omega)).symm, a4.trans (E 0 (by omega)).symm, (E 1 (by omega)).trans (a5.trans e6.symm), (E 2 (by omega)).trans (a6.trans e7.symm), (E 3 (by omega)).trans (a7.trans e8.symm), ?_, ?_, fun j hj => ?_, fun j hj => ?_⟩, k2, k3⟩
  · show rg (u' (18 * i + (5 - 5))) 0 999
    rw [E _ (by omega)]; exact b1
  · show rg (u' (18 * i + (9 - 5))) 0 48
    rw [E _ (by omega)]; exact b2
  · show rg (u' (18 * i + (10 + j - 5))) (-1) 19
    rw [E _ (by omega)]; exact b3 j hj
  · show rg (u' (18 * i + (17 + j - 5))) 0 3
    rw [E _ (by omega)]; exact b4 j hj
theorem Rel0.cong {h h' : AH} {nb nm nh nl : Nat} (k : Rel0 h nb nm nh nl) (o : OldE h h') (ri : ∀ p j, PZ p j = false → p < 110 → h'.2.1 p j = h.2.1 p j) (rl : ∀ p j, PZ p j = false → p < 110 → h'.2.2.1 p j = h.2.2.1 p j) (rr : ∀ q i, q = 11 ∨ q = 63 ∨ q = 76 → RF S_1 h' q i = RF S_1 h q i) : Rel0 h' nb nm nh nl := by
  obtain ⟨k1, k2, ⟨k3, k4⟩, ⟨k5, k6⟩, k7, ⟨k8, k9⟩, k10, k11, k12, k13⟩ := k
  have row : ∀ p, (∀ j, PZ p j = false) → p < 110 → h'.2.1 p = h.2.1 p := fun p e hp => funext fun j => ri p j (e j) hp
  have r82 := row 82 (fun j => decide_eq_false (by omega)) (by omega)
  refine ⟨by rw [r82]; exact k1, by rw [r82]; exact k2, ⟨?_, ?_⟩, ⟨?_, ?_⟩, ?_, ⟨?_, ?_⟩, ?_, ?_, ?_, ?_⟩
  · rw [r82]
    exact k3.rows (row _ (fun j => decide_eq_false (by omega)) (by omega)) (row _ (fun j => decide_eq_false (by omega)) (by omega)) (row _ (fun j => decide_eq_false (by omega)) (by omega))
  · rw [r82]
    exact k4.rows (fun d hd _ => row _ (fun j => decide_eq_false (by omega)) (by omega))
  · rw [r82]
    exact k5.to o (fun i => rr _ i (Or.inl rfl))
  · exact (ri 12 3 rfl (by omega)).trans k6
  · rw [r82, ri 16 2 rfl (by omega), ri 16 3 rfl (by omega), ri 80 8 rfl (by omega)]
    exact k7.cong (row _ (fun j => decide_eq_false (by omega)) (by omega)) (row _ (fun j => decide_eq_false (by omega)) (by omega)) (fun j hj => ri 85 j (decide_eq_false (by omega)) (by omega)) (row _ (fun j => decide_eq_false (by omega)) (by omega)) rfl rfl rfl
  · exact k8.to (by omega) o (fun p h1 h2 => row p (fun j => decide_eq_false (by omega)) (by omega)) (row _ (fun j => decide_eq_false (by omega)) (by omega)) (row _ (fun j => decide_eq_false (by omega)) (by omega)) (fun i => rr _ i (by omega))
  · exact k9.to (by omega) o (fun p h1 h2 => row p (fun j => decide_eq_false (by omega)) (by omega)) (row _ (fun j => decide_eq_false (by omega)) (by omega)) (row _ (fun j => decide_eq_false (by omega)) (by omega)) (fun i => rr _ i (by omega))
  · unfold MyS
    rw [ri 80 56 rfl (by omega), ri 80 57 rfl (by omega), row 28 (fun j => decide_eq_false (by omega)) (by omega), row 29 (fun j => decide_eq_false (by omega)) (by omega), row 30 (fun j => decide_eq_false (by omega)) (by omega), row 31 (fun j => decide_eq_false (by omega)) (by omega), row 109 (fun j => decide_eq_false (by omega)) (by omega)]
    exact k10
  · unfold TpS
    rw [ri 0 1 rfl (by omega), ri 80 13 rfl (by omega), row 1 (fun j => decide_eq_false (by omega)) (by omega), row 89 (fun j => decide_eq_false (by omega)) (by omega)]
    exact k11
  · unfold ScS
    rw [ri 0 15 rfl (by omega), ri 0 16 rfl (by omega), ri 0 17 rfl (by omega), ri 80 18 rfl (by omega), ri 80 11 rfl (by omega), ri 80 52 rfl (by omega), ri 80 20 rfl (by omega)]
    exact k12
  · intro p hp
    rw [← k13 p hp]
    funext j
    exact rl p j (decide_eq_false (by omega)) (by omega)
theorem Rel0.z {h h' : AH} {nb nm nh nl : Nat} (k : Rel0 h nb nm nh nl) (e : Eqv PZ h h') : Rel0 h' nb nm nh nl :=
  k.cong (OldE.of e PZ_law) (fun p j n _ => e.i p j n) (fun p j n _ => e.l p j n) (fun q i _ => e.rf q i)
theorem PX_Z (p j : Nat) (h : PX p j = true) : PZ p j = true := by
  have h := of_decide_eq_true h
  exact decide_eq_true (by omega)
theorem PT_Z (p j : Nat) (h : PT p j = true) : PZ p j = true := by
  have h := of_decide_eq_true h
  exact decide_eq_true (by omega)
theorem Eqv.xz {h h' : AH} (e : Eqv PX h h') : Eqv PZ h h' := e.mono PX_Z
theorem Eqv.vz {h h' : AH} (e : Eqv PV h h') : Eqv PZ h h' := e.vx.xz
theorem Eqv.tz {h h' : AH} (e : Eqv PT h h') : Eqv PZ h h' := e.mono PT_Z
/-- the law in force, on both sides -/
theorem Rel0.law {h : AH} {nb nm nh nl : Nat} (k : Rel0 h nb nm nh nl) : ∃ p n f, Ct h 3 (h.2.1 82) p n f nb nm ∧ CM h n f nb nm := by
  obtain ⟨k1, k2, ⟨k3, k4⟩, ⟨k5, k6⟩, k7, k8, k10, k11, k12, k13⟩ := k
  obtain ⟨⟨b0, b1⟩, ⟨b2, b3⟩, b4, ⟨b5, b6⟩, b7, b8⟩ := k1
  have f15 : h.2.1 2 15 = h.2.1 82 4 := k4.1.2.2.2.2.1
  have f12 : h.2.1 2 12 = nI nl := k4.1.2.2.2.1.trans b5
  rcases b7 with b7 | ⟨i, hi, b7⟩
  · refine ⟨12, 0, fun _ => (0, none, none), ⟨Or.inl rfl, k3, k4, ⟨Or.inl ⟨f15.trans b7, rfl, rfl⟩, ?_, ?_⟩, ?_, b0, b1, b2, b3⟩, Or.inl ⟨b7, rfl⟩, k12.2.2.2, b0, b1, b2, b3⟩
    · refine ⟨by omega, rfl, k6, 13, 14, 0, rfl, rfl, rfl, by omega, rfl, fun c hc => by omega⟩
    · refine ⟨Or.inl rfl, fun k q hq => ?_⟩
      unfold LawP
      match k with
      | 0 => injection hq with hq; omega
      | 1 => injection hq with hq; omega
      | 2 => cases hq
      | 3 => cases hq
      | k + 4 => cases hq
    · exact fun c hc => by omega
  · obtain ⟨p, n, f, c1, c2, c3, c4⟩ := k5.1 i hi
    exact ⟨p, n, f, ⟨Or.inl rfl, k3, k4, ⟨Or.inr ⟨i, nl, f15.trans b7, f12, hi, b6, c1⟩, c2, c3⟩, LawM.P (h := h) c4, b0, b1, b2, b3⟩, Or.inr ⟨i, by omega, b7, c4⟩, k12.2.2.2, b0, b1, b2, b3⟩
