def rgb (a lo hi : Int32) : Bool := decide (lo ≤ a ∧ a ≤ hi)
theorem xin_0_20 (a : Int32) (h : AH) : f_X11_in S_1 (Int32.toInt64 a) (0 : Int64) (20 : Int64) h = some (bI (rgb a 0 20), h) := by
  rw [show (0 : Int64) = Int32.toInt64 0 from by decide, show (20 : Int64) = Int32.toInt64 20 from by decide, x_in_I]
  rfl
theorem xin_0_9 (a : Int32) (h : AH) : f_X11_in S_1 (Int32.toInt64 a) (0 : Int64) (9 : Int64) h = some (bI (rgb a 0 9), h) := by
  rw [show (0 : Int64) = Int32.toInt64 0 from by decide, show (9 : Int64) = Int32.toInt64 9 from by decide, x_in_I]
  rfl
theorem xin_1_9 (a : Int32) (h : AH) : f_X11_in S_1 (Int32.toInt64 a) (1 : Int64) (9 : Int64) h = some (bI (rgb a 1 9), h) := by
  rw [show (1 : Int64) = Int32.toInt64 1 from by decide, show (9 : Int64) = Int32.toInt64 9 from by decide, x_in_I]
  rfl
theorem xin_0_999 (a : Int32) (h : AH) : f_X11_in S_1 (Int32.toInt64 a) (0 : Int64) (999 : Int64) h = some (bI (rgb a 0 999), h) := by
  rw [show (0 : Int64) = Int32.toInt64 0 from by decide, show (999 : Int64) = Int32.toInt64 999 from by decide, x_in_I]
  rfl
theorem xin_0_10 (a : Int32) (h : AH) : f_X11_in S_1 (Int32.toInt64 a) (0 : Int64) (10 : Int64) h = some (bI (rgb a 0 10), h) := by
  rw [show (0 : Int64) = Int32.toInt64 0 from by decide, show (10 : Int64) = Int32.toInt64 10 from by decide, x_in_I]
  rfl
theorem xin_0_7 (a : Int32) (h : AH) : f_X11_in S_1 (Int32.toInt64 a) (0 : Int64) (7 : Int64) h = some (bI (rgb a 0 7), h) := by
  rw [show (0 : Int64) = Int32.toInt64 0 from by decide, show (7 : Int64) = Int32.toInt64 7 from by decide, x_in_I]
  rfl
theorem xin_0_5 (a : Int32) (h : AH) : f_X11_in S_1 (Int32.toInt64 a) (0 : Int64) (5 : Int64) h = some (bI (rgb a 0 5), h) := by
  rw [show (0 : Int64) = Int32.toInt64 0 from by decide, show (5 : Int64) = Int32.toInt64 5 from by decide, x_in_I]
  rfl
theorem xin_0_1 (a : Int32) (h : AH) : f_X11_in S_1 (Int32.toInt64 a) (0 : Int64) (1 : Int64) h = some (bI (rgb a 0 1), h) := by
  rw [show (0 : Int64) = Int32.toInt64 0 from by decide, show (1 : Int64) = Int32.toInt64 1 from by decide, x_in_I]
  rfl
theorem xin_14_17 (a : Int32) (h : AH) : f_X11_in S_1 (Int32.toInt64 a) (14 : Int64) (17 : Int64) h = some (bI (rgb a 14 17), h) := by
  rw [show (14 : Int64) = Int32.toInt64 14 from by decide, show (17 : Int64) = Int32.toInt64 17 from by decide, x_in_I]
  rfl
theorem xin_1_20 (a : Int32) (h : AH) : f_X11_in S_1 (Int32.toInt64 a) (1 : Int64) (20 : Int64) h = some (bI (rgb a 1 20), h) := by
  rw [show (1 : Int64) = Int32.toInt64 1 from by decide, show (20 : Int64) = Int32.toInt64 20 from by decide, x_in_I]
  rfl
theorem xin_0_99 (a : Int32) (h : AH) : f_X11_in S_1 (Int32.toInt64 a) (0 : Int64) (99 : Int64) h = some (bI (rgb a 0 99), h) := by
  rw [show (0 : Int64) = Int32.toInt64 0 from by decide, show (99 : Int64) = Int32.toInt64 99 from by decide, x_in_I]
  rfl
theorem xin_0_48 (a : Int32) (h : AH) : f_X11_in S_1 (Int32.toInt64 a) (0 : Int64) (48 : Int64) h = some (bI (rgb a 0 48), h) := by
  rw [show (0 : Int64) = Int32.toInt64 0 from by decide, show (48 : Int64) = Int32.toInt64 48 from by decide, x_in_I]
  rfl
theorem xin_0_1000000 (a : Int32) (h : AH) : f_X11_in S_1 (Int32.toInt64 a) (0 : Int64) (1000000 : Int64) h = some (bI (rgb a 0 1000000), h) := by
  rw [show (0 : Int64) = Int32.toInt64 0 from by decide, show (1000000 : Int64) = Int32.toInt64 1000000 from by decide, x_in_I]
  rfl
theorem xin_1_60 (a : Int32) (h : AH) : f_X11_in S_1 (Int32.toInt64 a) (1 : Int64) (60 : Int64) h = some (bI (rgb a 1 60), h) := by
  rw [show (1 : Int64) = Int32.toInt64 1 from by decide, show (60 : Int64) = Int32.toInt64 60 from by decide, x_in_I]
  rfl
theorem rgb_of {x : Int32} {n : Nat} (hn : n < 2 ^ 31) (h : rgb x 0 (nI n) = true) : ∃ j, j ≤ n ∧ x = nI j := by
  have h := of_decide_eq_true h
  obtain ⟨j, hj, rfl⟩ := nI_of (Int32.not_lt.mpr h.1)
  exact ⟨j, (nI_leI hj hn).mp h.2, rfl⟩
theorem rgb_no {x : Int32} {n : Nat} (hn : n < 2 ^ 31) (h : rgb x 0 (nI n) = false) : x < 0 ∨ nI n < x := by
  by_cases h1 : x < 0
  · exact Or.inl h1
  · by_cases h2 : nI n < x
    · exact Or.inr h2
    · exact absurd (decide_eq_true (⟨Int32.not_lt.mp h1, Int32.not_lt.mp h2⟩ : (0 : Int32) ≤ x ∧ x ≤ nI n)) (by unfold rgb at h; rw [h]; decide)
/-- a stand's places -/
def SdP (a : Nat) : Prop := KP a = some (0, 7) ∧ KP (a + 1) = some (1, 7) ∧ KP (a + 2) = some (1, 6) ∧ (∀ h, gR S_1 h a 7 0 = some (a + 1)) ∧ (∀ h, gR S_1 h a 7 1 = some (a + 2))
theorem SdP_3 : SdP 3 := ⟨rfl, rfl, rfl, fun _ => rfl, fun _ => rfl⟩
theorem SdP_22 : SdP 22 := ⟨rfl, rfl, rfl, fun _ => rfl, fun _ => rfl⟩
theorem SdP_25 : SdP 25 := ⟨rfl, rfl, rfl, fun _ => rfl, fun _ => rfl⟩
theorem SdP_29 : SdP 29 := ⟨rfl, rfl, rfl, fun _ => rfl, fun _ => rfl⟩
theorem SdP_39 : SdP 39 := ⟨rfl, rfl, rfl, fun _ => rfl, fun _ => rfl⟩
theorem SdP_55 : SdP 55 := ⟨rfl, rfl, rfl, fun _ => rfl, fun _ => rfl⟩
theorem SdP_68 : SdP 68 := ⟨rfl, rfl, rfl, fun _ => rfl, fun _ => rfl⟩
def PSd (a p j : Nat) : Bool := decide (p = a ∧ (j = 2 ∨ j = 3) ∨ p = a + 1 ∧ j < 7 ∨ p = a + 2 ∧ j < 6)
theorem q_become {a b : Nat} (ha : SdP a) (hb : SdP b) (hab : a + 3 ≤ b ∨ b + 3 ≤ a) (h : AH) : ∃ h', f_X7_become S_1 a b h = some ((), h') ∧ Eqv (PSd a) h h' ∧ ∀ r, StX h b r → StX h' a r := by
  obtain ⟨a0, a1, a2, a3, a4⟩ := ha
  obtain ⟨b0, b1, b2, b3, b4⟩ := hb
  obtain ⟨h1, r1, c1⟩ := cpI_of (sp := 0) (dp := 0) (n := 7) (KP_kd b1 h) (KP_kd a1 h) (by decide) (by decide) (by decide)
  obtain ⟨h2, r2, c2⟩ := cpI_of (sp := 0) (dp := 0) (n := 6) (KP_kd b2 h1) (KP_kd a2 h1) (by decide) (by decide) (by decide)
  unfold f_X7_become
  rw [bs_ (b3 h), bs_ (a3 h), bs_ (show cpI S_1 h (b + 1) (0 : Int32) (a + 1) (0 : Int32) (7 : Int32) = some h1 from r1), bs_ (b4 h1), bs_ (a4 h1), bs_ (show cpI S_1 h1 (b + 2) (0 : Int32) (a + 2) (0 : Int32) (6 : Int32) = some h2 from r2), zI b0, zP a0, zI b0, zP a0]
  have E1 : Eqv (PSd a) h h1 := c1.eq fun j _ hj => decide_eq_true (by omega)
  have E2 : Eqv (PSd a) h h2 := E1.trans (c2.eq fun j _ hj => decide_eq_true (by omega))
  have f2 : ∀ k, h2.2.1 b k = h.2.1 b k := fun k => (c2.n (by omega)).trans (c1.n (by omega))
  refine ⟨_, rfl, (E2.si (decide_eq_true (by omega))).si (decide_eq_true (by omega)), fun r ⟨t, d, c, g⟩ => ⟨fun j hj => ?_, fun j hj => ?_, ?_, ?_⟩⟩
  · rw [ri_p (by omega), ri_p (by omega), c2.n (by omega)]
    have := c1.i (j := j) hj
    rw [Nat.zero_add] at this
    rw [this, t j hj]
  · rw [ri_p (by omega), ri_p (by omega)]
    have := c2.i (j := j) hj
    rw [Nat.zero_add, c1.n (by omega)] at this
    rw [this, d j hj]
  · rw [ri_k (by decide), stI_s, f2, c]
  · rw [stI_s, ri_p (by omega), f2, g]
/-- rows that differ in a stand alone -/
def Ag (r r' : Nat → Int32) : Prop := ∀ j, j ≠ 5 → ¬ (9 ≤ j ∧ j ≤ 22) → r' j = r j
theorem Ag.refl (r : Nat → Int32) : Ag r r := fun _ _ _ => rfl
theorem Ag.set {r r' : Nat → Int32} {i : Nat} {v : Int32} (a : Ag r r') (hi : i = 5 ∨ 9 ≤ i ∧ i ≤ 22) : Ag r (rset r' i v) := fun j h1 h2 => (rset_n _ _ (by omega)).trans (a j h1 h2)
theorem RoX.ag {h : AH} {r r' : Nat → Int32} (k : RoX h 2 r) (a : Ag r r') : RoX h 2 r' := by
  obtain ⟨⟨r0, r1, r2, r3, r4, r6, r7, r8⟩, hra, hfa, hcl, hri, hhe⟩ := k
  exact ⟨⟨r0.trans (a _ (by omega) (by omega)).symm, r1.trans (a _ (by omega) (by omega)).symm, r2.trans (a _ (by omega) (by omega)).symm, r3.trans (a _ (by omega) (by omega)).symm, r4.trans (a _ (by omega) (by omega)).symm, r6.trans (a _ (by omega) (by omega)).symm, r7.trans (a _ (by omega) (by omega)).symm, r8.trans (a _ (by omega) (by omega)).symm⟩, fun j hj => (hra j hj).trans (a _ (by omega) (by omega)).symm, fun j hj => (hfa j hj).trans (a _ (by omega) (by omega)).symm, fun j hj => (hcl j hj).trans (a _ (by omega) (by omega)).symm, fun j hj => (hri j hj).trans (a _ (by omega) (by omega)).symm, fun j hj => (hhe j hj).trans (a _ (by omega) (by omega)).symm⟩
theorem Ct.mv {P : Nat → Nat → Bool} {h h' : AH} {s s' : Nat} {r r' : Nat → Int32} {p n nb nm : Nat} {f : Nat → Cl} (k : Ct h s r p n f nb nm) (hs' : s' = 3 ∨ s' = 25 ∨ s' = 29 ∨ s' = 39) (e : Eqv P h h') (hP : ∀ q j, q = 2 ∨ 6 ≤ q ∧ q ≤ 10 ∨ LawP q → P q j = false) (hS : StX h' s' r') (a : Ag r r') : Ct h' s' r' p n f nb nm := by
  obtain ⟨k1, k2, k3, ⟨k4, k5, k6⟩, k7, k8, k9, k10, k11⟩ := k
  have o := OldE.of e fun q j l => hP q j (Or.inr (Or.inr l))
  refine ⟨hs', hS, RoX.ag (k3.rows fun d hd hd2 => ?_) a, ⟨?_, k5.to k6 o, k6.to k5.2.1 o⟩, k7, (a 0 (by omega) (by omega)).trans k8, k9, (a 1 (by omega) (by omega)).trans k10, k11⟩
  · exact e.row fun j => hP _ j (by omega)
  · rw [e.row (p := 2) fun j => hP 2 j (by omega)]
    rcases k4 with k4 | ⟨i, l, a1, a2, a3, a4, a5⟩
    · exact Or.inl k4
    · exact Or.inr ⟨i, l, a1, a2, a3, a4, (e.rf 11 i).trans a5⟩
