/-! the call orders: what goes ahead, on the class's side -/
theorem RgP.co {c a u s c' a' u' s' r : Nat → Int32} {nx sz nu : Int32} (k : RgP c a nx sz u s nu r) (e1 : ∀ j, j < 255 → c' j = c j) (e2 : ∀ j, j < 17 → a' j = a j) (e3 : ∀ j, j < 288 → u' j = u j) (e4 : ∀ j, j < 16 → s' j = s j) : RgP c' a' nx sz u' s' nu r := by
  obtain ⟨z, x, hz, hx, s1, s2, s3, H⟩ := k
  refine ⟨z, x, hz, hx, s1, s2, s3, fun i hi => ?_⟩
  obtain ⟨⟨a1, a2, a3, a4, a5, a6, a7, b1, b2, b3, b4⟩, k2, t, ht, k3⟩ := H i hi
  have sl : slot x z i < 17 := by unfold slot; omega
  have E : ∀ j, j < 18 → u' (18 * i + j) = u (18 * i + j) := fun j hj => e3 _ (by omega)
  have C : ∀ j, j < 15 → c' (15 * slot x z i + j) = c (15 * slot x z i + j) := fun j hj => e1 _ (by omega)
  refine ⟨⟨fun j hj => (C _ (by omega)).trans ((a1 j hj).trans (E _ (by omega)).symm), fun j hj => (C _ (by omega)).trans ((a2 j hj).trans (E _ (by omega)).symm), (C _ (by omega)).trans (a3.trans (E 4 (by omega)).symm), (C _ (by omega)).trans (a4.trans (E 0 (by omega)).symm), (E 1 (by omega)).trans a5, (E 2 (by omega)).trans a6, (E 3 (by omega)).trans a7, ?_, ?_, fun j hj => ?_, fun j hj => ?_⟩, (e2 _ sl).trans (k2.trans (e4 i (by omega)).symm), t, ht, (e4 i (by omega)).trans k3⟩
  · show rg (u' (18 * i + (5 - 5))) 0 999
    rw [E _ (by omega)]; exact b1
  · show rg (u' (18 * i + (9 - 5))) 0 48
    rw [E _ (by omega)]; exact b2
  · show rg (u' (18 * i + (10 + j - 5))) (-1) 19
    rw [E _ (by omega)]; exact b3 j hj
  · show rg (u' (18 * i + (17 + j - 5))) 0 3
    rw [E _ (by omega)]; exact b4 j hj
def PRg (a p j : Nat) : Bool := decide (p = a ∧ (j = 2 ∨ j = 3) ∨ p = a + 1 ∨ p = a + 2)
/-- the ring becomes another -/
theorem q_ring {a b : Nat} (hab : a = 16 ∧ b = 19 ∨ a = 19 ∧ b = 16) (h : AH) : ∃ h', f_X5_become S_1 a b h = some ((), h') ∧ Eqv (PRg a) h h' ∧ (∀ j, j < 255 → h'.2.1 (a + 1) j = h.2.1 (b + 1) j) ∧ (∀ j, j < 17 → h'.2.1 (a + 2) j = h.2.1 (b + 2) j) ∧ h'.2.1 a 2 = h.2.1 b 2 ∧ h'.2.1 a 3 = h.2.1 b 3 := by
  have K : KP a = some (0, 5) ∧ KP (a + 1) = some (1, 255) ∧ KP (a + 2) = some (1, 17) ∧ KP b = some (0, 5) ∧ KP (b + 1) = some (1, 255) ∧ KP (b + 2) = some (1, 17) ∧ (∀ h, gR S_1 h a 5 0 = some (a + 1) ∧ gR S_1 h a 5 1 = some (a + 2)) ∧ ∀ h, gR S_1 h b 5 0 = some (b + 1) ∧ gR S_1 h b 5 1 = some (b + 2) := by
    rcases hab with ⟨rfl, rfl⟩ | ⟨rfl, rfl⟩ <;> exact ⟨rfl, rfl, rfl, rfl, rfl, rfl, fun _ => ⟨rfl, rfl⟩, fun _ => ⟨rfl, rfl⟩⟩
  obtain ⟨a0, a1, a2, b0, b1, b2, ag, bg⟩ := K
  obtain ⟨h1, q1, c1⟩ := cpI_of (h := h) (a := b + 1) (b := a + 1) (sp := 0) (dp := 0) (n := 255) (KP_kd b1 _) (KP_kd a1 _) (by decide) (by decide) (by decide)
  obtain ⟨h2, q2, c2⟩ := cpI_of (h := h1) (a := b + 2) (b := a + 2) (sp := 0) (dp := 0) (n := 17) (KP_kd b2 _) (KP_kd a2 _) (by decide) (by decide) (by decide)
  obtain ⟨h3, hh3⟩ : ∃ h3, h3 = stI h2 a 2 (h2.2.1 b 2) := ⟨_, rfl⟩
  refine ⟨stI h3 a 3 (h3.2.1 b 3), ?_, ?_, fun j hj => ?_, fun j hj => ?_, ?_, ?_⟩
  · unfold f_X5_become
    rw [bs_ (bg h).1, bs_ (ag h).1, bs_ (show cpI S_1 h (b + 1) (0 : Int32) (a + 1) (0 : Int32) (255 : Int32) = some h1 from q1), bs_ (bg h1).2, bs_ (ag h1).2, bs_ (show cpI S_1 h1 (b + 2) (0 : Int32) (a + 2) (0 : Int32) (17 : Int32) = some h2 from q2), zI b0, zP a0, ← hh3, zI b0, zP a0]
  · refine Eqv.si ?_ (decide_eq_true (by omega))
    rw [hh3]
    exact ((c1.eq fun j _ _ => decide_eq_true (by omega)).trans (c2.eq fun j _ _ => decide_eq_true (by omega))).si (decide_eq_true (by omega))
  · rw [ri_p (by omega), hh3, ri_p (by omega), c2.n (by omega)]
    have := c1.i (j := j) hj
    rw [Nat.zero_add] at this
    exact this
  · rw [ri_p (by omega), hh3, ri_p (by omega)]
    have := c2.i (j := j) hj
    rw [Nat.zero_add] at this
    rw [this]
    exact c1.n (by omega)
  · rw [ri_k (by omega), hh3, stI_s, c2.n (by omega)]
    exact c1.n (by omega)
  · rw [stI_s, hh3, ri_p (by omega), c2.n (by omega)]
    exact c1.n (by omega)
/-- what the class may have changed when its orders begin -/
def PO6 (p j : Nat) : Bool := decide (46 ≤ p ∧ p ≤ 49 ∨ p = 45 ∧ 2 ≤ j ∧ j ≤ 4 ∨ p = 50 ∧ (j = 2 ∨ j = 3) ∨ p = 51 ∨ p = 52 ∨ p = 0 ∧ (j = 1 ∨ j = 15 ∨ 17 ≤ j) ∨ 19 ≤ p ∧ p ≤ 24)
theorem PO6_o {p j : Nat} (h : 46 ≤ p ∧ p ≤ 49 ∨ p = 45 ∧ 2 ≤ j ∧ j ≤ 4 ∨ p = 50 ∧ (j = 2 ∨ j = 3) ∨ p = 51 ∨ p = 52 ∨ p = 0 ∧ (j = 1 ∨ j = 15 ∨ 17 ≤ j) ∨ 19 ≤ p ∧ p ≤ 24) : PO6 p j = true := decide_eq_true h
theorem PO6_no {p j : Nat} (h : ¬ (45 ≤ p ∧ p ≤ 52 ∨ p = 0 ∧ (j = 1 ∨ j = 15 ∨ 17 ≤ j) ∨ 19 ≤ p ∧ p ≤ 24)) : PO6 p j = false := decide_eq_false (by omega)
theorem PO6_T (p j : Nat) (h : PO6 p j = true) : PGT p j = true := by
  have h := of_decide_eq_true h
  by_cases c : p = 0 ∧ j ≤ 17
  · exact PGT_of (by omega)
  · exact PGT_of (Or.inl (decide_eq_true (by omega)))
def tailX (z : (Int32 ⊕ Nat) × AH) : Option (Int32 × AH) := match z with
    | (.inl w, h') => some (w, h')
    | (.inr r0_31, h_30) =>
      (gI S_1 h_30 r0_31 10 18).bind fun v_32 =>
      (ckO S_1 h_30 r0_31 10).bind fun _ =>
      (f_X10_accept S_1 r0_31 v_32 h_30).bind fun z => match z with
      | (z_36, h_35) =>
      some (z_36, h_35)
theorem q_ordB {h h1 : AH} {t : Nat} {r : Nat → Int32} (t1 : h.2.1 0 1 = nI t) (e1 : Eqv PRd h h1) (r1 : f_X3_read S_1 45 1 (nI t) (0 : Int32) h = some (1, h1)) (sx : StX h 3 r) : ∃ h6, f_X10_orders S_1 0 h = (f_X10_orders_l102 S_1 FU 0 50 (nI 0) h6).bind tailX ∧ Eqv PO6 h h6 ∧ h6.2.1 51 = h1.2.1 51 ∧ h6.2.1 52 = h1.2.1 52 ∧ h6.2.1 50 3 = h1.2.1 50 3 ∧ h6.2.1 0 1 = 0 ∧ h6.2.1 0 15 = -1 ∧ h6.2.1 0 17 = -1 ∧ h6.2.1 0 18 = nI 0 ∧ h6.2.1 0 19 = -1 ∧ StX h6 22 r ∧ (∀ j, j < 255 → h6.2.1 20 j = h.2.1 17 j) ∧ (∀ j, j < 17 → h6.2.1 21 j = h.2.1 18 j) ∧ h6.2.1 19 2 = h.2.1 16 2 ∧ h6.2.1 19 3 = h.2.1 16 3 := by
  obtain ⟨h3, hh3⟩ : ∃ h3, h3 = stI (stI (stI h1 0 1 0) 0 15 (-1)) 0 17 (-1) := ⟨_, rfl⟩
  have o3 : ∀ p j, p ≠ 0 → h3.2.1 p j = h1.2.1 p j := fun p j hp => by rw [hh3, ri_p hp, ri_p hp, ri_p hp]
  have E3 : Eqv PO6 h h3 := by
    rw [hh3]
    refine (((e1.mono fun p j z => ?_).si (PO6_o (by omega))).si (PO6_o (by omega))).si (PO6_o (by omega))
    have z := of_decide_eq_true z
    exact PO6_o (by omega)
  have row3 : ∀ p, p ≠ 0 → ¬ (45 ≤ p ∧ p ≤ 52) → h3.2.1 p = h.2.1 p := fun p a b => funext fun j => (o3 p j a).trans (e1.i p j (decide_eq_false (by omega)))
  obtain ⟨h4, q4, e4, s4⟩ := q_become (a := 22) (b := 3) SdP_22 SdP_3 (by decide) h3
  obtain ⟨h5, q5, e5, g1, g2, g3, g4⟩ := q_ring (a := 19) (b := 16) (Or.inr ⟨rfl, rfl⟩) h4
  obtain ⟨h6, hh6⟩ : ∃ h6, h6 = stI (stI h5 0 18 0) 0 19 (-1) := ⟨_, rfl⟩
  have o4 : ∀ p j, ¬ (22 ≤ p ∧ p ≤ 24) → h4.2.1 p j = h3.2.1 p j := fun p j hp => e4.i p j (decide_eq_false (by omega))
  have o5 : ∀ p j, ¬ (19 ≤ p ∧ p ≤ 21) → h5.2.1 p j = h4.2.1 p j := fun p j hp => e5.i p j (decide_eq_false (by omega))
  have o6 : ∀ p j, p ≠ 0 → h6.2.1 p j = h5.2.1 p j := fun p j hp => by rw [hh6, ri_p hp, ri_p hp]
  have z6 : ∀ j, j ≠ 18 → j ≠ 19 → h6.2.1 0 j = h3.2.1 0 j := fun j a b => by rw [hh6, ri_k b, ri_k a, o5 0 j (by decide), o4 0 j (by decide)]
  have E6 : Eqv PO6 h h6 := by
    rw [hh6]
    refine (Eqv.si (Eqv.trans (Eqv.trans E3 (e4.mono fun p j z => ?_)) (e5.mono fun p j z => ?_)) (PO6_o (by omega))).si (PO6_o (by omega))
    · have z := of_decide_eq_true z
      exact PO6_o (by omega)
    · have z := of_decide_eq_true z
      exact PO6_o (by omega)
  have s5 : StX h4 22 r := s4 r (sx.rows (row3 3 (by decide) (by decide)) (row3 4 (by decide) (by decide)) (row3 5 (by decide) (by decide)))
  have r6 : ∀ p, p ≠ 0 → ¬ (19 ≤ p ∧ p ≤ 21) → h6.2.1 p = h4.2.1 p := fun p a b => funext fun j => (o6 p j a).trans (o5 p j b)
  refine ⟨h6, ?_, E6, ?_, ?_, ?_, ?_, ?_, ?_, ?_, ?_, s5.rows (r6 22 (by decide) (by decide)) (r6 23 (by decide) (by decide)) (r6 24 (by decide) (by decide)), fun j hj => ?_, fun j hj => ?_, ?_, ?_⟩
  · unfold f_X10_orders
    rw [bs_ (yr_0_12 h), bs_ (yr_0_0 h), bs_ (yi_0 h 1), t1, bs_ (ck_45 h), bs_ r1]
    dsimp only
    rw [bs_ (xi_0 h1 1 _), if_neg (show ¬ (1 : Int32) = 0 by decide)]
    unfold f_X10_orders_j38
    rw [bs_ (xi_0 _ 15 _), bs_ (xi_0 _ 17 _), if_neg (show ¬ (1 : Int32) = 0 by decide), ← hh3, bs_ (yr_0_6 h3), bs_ (yr_0_2 h3), bs_ (yr_2_0 h3), bs_ (ck_22 h3), bs_ q4]
    dsimp only
    rw [bs_ (yr_0_5 h4), bs_ (yr_0_4 h4), bs_ (ck_19 h4), bs_ q5]
    dsimp only
    rw [bs_ (xi_0 h5 18 _), bs_ (xi_0 _ 19 _), ← hh6, bs_ (yr_0_12 h6), bs_ (yr_45_1 h6)]
    rfl
  · exact funext fun j => (o6 51 j (by decide)).trans ((o5 51 j (by decide)).trans ((o4 51 j (by decide)).trans (o3 51 j (by decide))))
  · exact funext fun j => (o6 52 j (by decide)).trans ((o5 52 j (by decide)).trans ((o4 52 j (by decide)).trans (o3 52 j (by decide))))
  · exact (o6 50 3 (by decide)).trans ((o5 50 3 (by decide)).trans ((o4 50 3 (by decide)).trans (o3 50 3 (by decide))))
  · rw [z6 1 (by decide) (by decide), hh3, ri_k (by decide), ri_k (by decide), stI_s]
  · rw [z6 15 (by decide) (by decide), hh3, ri_k (by decide), stI_s]
  · rw [z6 17 (by decide) (by decide), hh3, stI_s]
  · rw [hh6, ri_k (by decide), stI_s]
    rfl
  · rw [hh6, stI_s]
  · rw [o6 20 j (by decide), g1 j hj, o4 17 j (by decide), row3 17 (by decide) (by decide)]
  · rw [o6 21 j (by decide), g2 j hj, o4 18 j (by decide), row3 18 (by decide) (by decide)]
  · rw [o6 19 2 (by decide), g3, o4 16 2 (by decide), row3 16 (by decide) (by decide)]
  · rw [o6 19 3 (by decide), g4, o4 16 3 (by decide), row3 16 (by decide) (by decide)]
/-- where the class stops: all is as it was -/
theorem q_failX {h : AH} {r : Nat → Int32} (y : Nat) (sx : StX h 22 r) : ∃ h2 h', failX y h = some (.inl (-3), h') ∧ Eqv (fun p j => PSd 3 p j || (PRg 16 p j || decide (p = 0 ∧ j = 17))) h h2 ∧ StX h2 3 r ∧ (∀ j, j < 255 → h2.2.1 17 j = h.2.1 20 j) ∧ (∀ j, j < 17 → h2.2.1 18 j = h.2.1 21 j) ∧ h2.2.1 16 2 = h.2.1 19 2 ∧ h2.2.1 16 3 = h.2.1 19 3 ∧ h2.2.1 0 17 = nI y ∧ Eqv PA0 h2 h' ∧ StC h2 h' (-3) := by
  obtain ⟨h3, q3, e3, s3⟩ := q_become (a := 3) (b := 22) SdP_3 SdP_22 (by decide) h
  obtain ⟨h4, q4, e4, g1, g2, g3, g4⟩ := q_ring (a := 16) (b := 19) (Or.inl ⟨rfl, rfl⟩) h3
  obtain ⟨h5, hh5⟩ : ∃ h5, h5 = stI h4 0 17 (nI y) := ⟨_, rfl⟩
  obtain ⟨h6, q6, e6, s6⟩ := q_refuse h5 (-3) (Or.inr (Or.inr (Or.inr (Or.inl rfl)))) (by decide)
  have o3 : ∀ p j, ¬ (3 ≤ p ∧ p ≤ 5) → h3.2.1 p j = h.2.1 p j := fun p j hp => e3.i p j (decide_eq_false (by omega))
  have o5 : ∀ p j, p ≠ 0 → h5.2.1 p j = h4.2.1 p j := fun p j hp => by rw [hh5, ri_p hp]
  have r5 : ∀ p, p ≠ 0 → ¬ (16 ≤ p ∧ p ≤ 18) → h5.2.1 p = h3.2.1 p := fun p a b => funext fun j => (o5 p j a).trans (e4.i p j (decide_eq_false (by omega)))
  refine ⟨h5, h6, ?_, ?_, (s3 r sx).rows (r5 3 (by decide) (by decide)) (r5 4 (by decide) (by decide)) (r5 5 (by decide) (by decide)), fun j hj => ?_, fun j hj => ?_, ?_, ?_, by rw [hh5, stI_s], e6, s6⟩
  · unfold failX
    rw [bs_ (yr_0_2 h), bs_ (yr_2_0 h), bs_ (yr_0_6 h), bs_ (ck_3 h), bs_ q3]
    dsimp only
    rw [bs_ (yr_0_4 h3), bs_ (yr_0_5 h3), bs_ (ck_16 h3), bs_ q4]
    dsimp only
    rw [bs_ (xi_0 h4 17 _), ← hh5, bs_ (ck_0 h5), bs_ q6]
  · rw [hh5]
    refine Eqv.si (Eqv.trans (e3.mono fun p j z => ?_) (e4.mono fun p j z => ?_)) (by rfl)
    · show (PSd 3 p j || (PRg 16 p j || decide (p = 0 ∧ j = 17))) = true
      rw [z]; rfl
    · show (PSd 3 p j || (PRg 16 p j || decide (p = 0 ∧ j = 17))) = true
      rw [z, Bool.true_or, Bool.or_true]
  · rw [o5 17 j (by decide), g1 j hj]
    exact o3 20 j (by decide)
  · rw [o5 18 j (by decide), g2 j hj]
    exact o3 21 j (by decide)
  · rw [o5 16 2 (by decide), g3]
    exact o3 19 2 (by decide)
  · rw [o5 16 3 (by decide), g4]
    exact o3 19 3 (by decide)
