/-! images -/
def RoP (a : Nat) : Prop := KP a = some (0, 6) ∧ SdP (a + 1) ∧ (KP (a + 4) = some (1, 7) ∧ KP (a + 5) = some (1, 42) ∧ KP (a + 6) = some (1, 6) ∧ KP (a + 7) = some (1, 6) ∧ KP (a + 8) = some (1, 6) ∧ KP (a + 9) = some (5, 6)) ∧ S_1.2 (a + 9) = none ∧ ∀ h, gR S_1 h a 6 0 = some (a + 1) ∧ gR S_1 h a 6 2 = some (a + 4) ∧ gR S_1 h a 6 3 = some (a + 5) ∧ gR S_1 h a 6 5 = some (a + 6) ∧ gR S_1 h a 6 6 = some (a + 7) ∧ gR S_1 h a 6 11 = some (a + 8) ∧ gR S_1 h a 6 13 = some (a + 9)
theorem RoP_2 : RoP 2 := ⟨rfl, SdP_3, ⟨rfl, rfl, rfl, rfl, rfl, rfl⟩, rfl, fun _ => ⟨rfl, rfl, rfl, rfl, rfl, rfl, rfl⟩⟩
theorem RoP_54 : RoP 54 := ⟨rfl, SdP_55, ⟨rfl, rfl, rfl, rfl, rfl, rfl⟩, rfl, fun _ => ⟨rfl, rfl, rfl, rfl, rfl, rfl, rfl⟩⟩
theorem RoP_67 : RoP 67 := ⟨rfl, SdP_68, ⟨rfl, rfl, rfl, rfl, rfl, rfl⟩, rfl, fun _ => ⟨rfl, rfl, rfl, rfl, rfl, rfl, rfl⟩⟩
theorem cpR_of {h : AH} {a b : Nat} (ha : KD S_1 h a = some (5, 6)) (hb : KD S_1 h b = some (5, 6)) (hs : S_1.2 b = none) (ht : ∀ i, i < 6 → ∀ y, RF S_1 h a i = some y → KD S_1 h y = some (0, 8)) : ∃ h', cpR S_1 h a (0 : Int32) b (0 : Int32) (6 : Int32) = some h' ∧ h'.1 = h.1 ∧ h'.2.1 = h.2.1 ∧ h'.2.2.1 = h.2.2.1 ∧ (∀ q i, q ≠ b → RF S_1 h' q i = RF S_1 h q i) ∧ ∀ i, i < 6 → RF S_1 h' b i = RF S_1 h a i := by
  refine ⟨cpyR S_1 h a 0 b 0 6, ?_, rfl, rfl, rfl, fun q i hq => ?_, fun i hi => ?_⟩
  · unfold cpR
    rw [ha, hb]
    refine if_neg ?_
    rintro (e | e | e)
    · exact absurd e (by decide)
    · rw [hs] at e
      cases e
    · refine e ?_
      rw [List.all_eq_true]
      intro i hi
      have hi := List.mem_range.mp hi
      have hi6 : i < 6 := hi
      show (RF S_1 h a (0 + i)).all _ = true
      rw [Nat.zero_add]
      cases er : RF S_1 h a i with
      | none => rfl
      | some y => exact decide_eq_true (ht i hi6 y er)
  · unfold RF cpyR
    dsimp only
    rw [if_neg hq]
  · have : RF S_1 (cpyR S_1 h a 0 b 0 6) b i = va_cpy (RF S_1 h a) (RF S_1 h b) 0 0 6 i := by
      show (match S_1.2 b with
        | some f => f i
        | none => if b = b then va_cpy (RF S_1 h a) (RF S_1 h b) 0 0 6 i else h.2.2.2 b i) = _
      rw [hs]
      exact if_pos rfl
    rw [this]
    unfold va_cpy
    rw [if_pos ⟨by omega, by omega⟩]
    congr 1
    omega
def PRo (a p j : Nat) : Bool := decide (a ≤ p ∧ p ≤ a + 8 ∧ ¬ (p = a ∧ 16 ≤ j))
theorem q_rollBecome {a b : Nat} (ha : RoP a) (hb : RoP b) (hab : a + 13 ≤ b ∨ b + 13 ≤ a) (h : AH) (ht : ∀ i, i < 6 → ∀ y, RF S_1 h (b + 9) i = some y → KD S_1 h y = some (0, 8)) : ∃ h', f_X6_become S_1 a b h = some ((), h') ∧ h'.1 = h.1 ∧ (∀ p j, PRo a p j = false → h'.2.1 p j = h.2.1 p j ∧ h'.2.2.1 p j = h.2.2.1 p j) ∧ (∀ q i, q ≠ a + 9 → RF S_1 h' q i = RF S_1 h q i) ∧ (∀ i, i < 6 → RF S_1 h' (a + 9) i = RF S_1 h (b + 9) i) ∧ ∀ r, StX h (b + 1) r → RoX h b r → StX h' (a + 1) r ∧ RoX h' a r := by
  obtain ⟨a0, a1, ⟨a4, a5, a6, a7, a8, a9⟩, a10, ag⟩ := ha
  obtain ⟨b0, b1, ⟨b4, b5, b6, b7, b8, b9⟩, b10, bg⟩ := hb
  obtain ⟨h1, q1, e1, s1⟩ := q_become a1 b1 (by omega) h
  obtain ⟨h2, eh2⟩ : ∃ h2, h2 = stI h1 a 1 (h.2.1 b 1) := ⟨_, rfl⟩
  obtain ⟨h3, q3, c3⟩ := cpI_of (h := h2) (a := b + 4) (b := a + 4) (sp := 0) (dp := 0) (n := 7) (KP_kd b4 _) (KP_kd a4 _) (by decide) (by decide) (by decide)
  obtain ⟨h4, q4, c4⟩ := cpI_of (h := h3) (a := b + 5) (b := a + 5) (sp := 0) (dp := 0) (n := 42) (KP_kd b5 _) (KP_kd a5 _) (by decide) (by decide) (by decide)
  obtain ⟨h5, eh5⟩ : ∃ h5, h5 = stI h4 a 4 (h.2.1 b 4) := ⟨_, rfl⟩
  obtain ⟨h6, q6, c6⟩ := cpI_of (h := h5) (a := b + 6) (b := a + 6) (sp := 0) (dp := 0) (n := 6) (KP_kd b6 _) (KP_kd a6 _) (by decide) (by decide) (by decide)
  obtain ⟨h7, q7, c7⟩ := cpI_of (h := h6) (a := b + 7) (b := a + 7) (sp := 0) (dp := 0) (n := 6) (KP_kd b7 _) (KP_kd a7 _) (by decide) (by decide) (by decide)
  obtain ⟨h8, eh8⟩ : ∃ h8, h8 = stI (stI (stI (stI h7 a 7 (h.2.1 b 7)) a 8 (h.2.1 b 8)) a 9 (h.2.1 b 9)) a 10 (h.2.1 b 10) := ⟨_, rfl⟩
  obtain ⟨h9, q9, c9⟩ := cpI_of (h := h8) (a := b + 8) (b := a + 8) (sp := 0) (dp := 0) (n := 6) (KP_kd b8 _) (KP_kd a8 _) (by decide) (by decide) (by decide)
  obtain ⟨h10, eh10⟩ : ∃ h10, h10 = stI h9 a 12 (h.2.1 b 12) := ⟨_, rfl⟩
  have E1 : Eqv (PRo a) h h1 := e1.mono fun p j e => by
    have e := of_decide_eq_true e
    exact decide_eq_true (by omega)
  have E2 : Eqv (PRo a) h h2 := by rw [eh2]; exact E1.si (decide_eq_true (by omega))
  have E3 := E2.trans (c3.eq (P := PRo a) fun j _ _ => decide_eq_true (by omega))
  have E4 := E3.trans (c4.eq (P := PRo a) fun j _ _ => decide_eq_true (by omega))
  have E5 : Eqv (PRo a) h h5 := by rw [eh5]; exact E4.si (decide_eq_true (by omega))
  have E6 := E5.trans (c6.eq (P := PRo a) fun j _ _ => decide_eq_true (by omega))
  have E7 := E6.trans (c7.eq (P := PRo a) fun j _ _ => decide_eq_true (by omega))
  have E8 : Eqv (PRo a) h h8 := by rw [eh8]; exact (((E7.si (decide_eq_true (by omega))).si (decide_eq_true (by omega))).si (decide_eq_true (by omega))).si (decide_eq_true (by omega))
  have E9 := E8.trans (c9.eq (P := PRo a) fun j _ _ => decide_eq_true (by omega))
  have E10 : Eqv (PRo a) h h10 := by rw [eh10]; exact E9.si (decide_eq_true (by omega))
  have nb : ∀ p j, b ≤ p → p ≤ b + 9 → PRo a p j = false := fun p j h1 h2 => decide_eq_false (by omega)
  obtain ⟨h11, q11, k1, k2, k3, k4, k5⟩ := cpR_of (h := h10) (a := b + 9) (b := a + 9) (KP_kd b9 _) (KP_kd a9 _) a10 (fun i hi y hy => (E10.kd y).trans (ht i hi y ((E10.rf (b + 9) i).symm.trans hy)))
  have f1 : ∀ k, h1.2.1 b k = h.2.1 b k := fun k => E1.i b k (nb b k (by omega) (by omega))
  refine ⟨stI h11 a 15 (h.2.1 b 15), ?_, k1.trans E10.1, fun p j hp => ⟨?_, (congrFun (congrFun k3 p) j).trans (E10.l p j hp)⟩, fun q i hq => (k4 q i hq).trans (E10.rf q i), fun i hi => (k5 i hi).trans (E10.rf _ i), fun r hS hR => ?_⟩
  · unfold f_X6_become
    rw [bs_ (ag h).1, bs_ (bg h).1, bs_ (show ckO S_1 h (a + 1) 7 = some () from if_pos (KP_kd a1.1 h)), bs_ q1]
    dsimp only
    rw [zI b0, zP a0, f1, ← eh2, bs_ (bg h2).2.1, bs_ (ag h2).2.1, bs_ (show cpI S_1 h2 (b + 4) (0 : Int32) (a + 4) (0 : Int32) (7 : Int32) = some h3 from q3), bs_ (bg h3).2.2.1, bs_ (ag h3).2.2.1, bs_ (show cpI S_1 h3 (b + 5) (0 : Int32) (a + 5) (0 : Int32) (42 : Int32) = some h4 from q4), zI b0, zP a0, E4.i b 4 (nb _ _ (by omega) (by omega)), ← eh5, bs_ (bg h5).2.2.2.1, bs_ (ag h5).2.2.2.1, bs_ (show cpI S_1 h5 (b + 6) (0 : Int32) (a + 6) (0 : Int32) (6 : Int32) = some h6 from q6), bs_ (bg h6).2.2.2.2.1, bs_ (ag h6).2.2.2.2.1, bs_ (show cpI S_1 h6 (b + 7) (0 : Int32) (a + 7) (0 : Int32) (6 : Int32) = some h7 from q7)]
    rw [zI b0, zP a0, zI b0, zP a0, zI b0, zP a0, zI b0, zP a0]
    rw [ri_p (show b ≠ a by omega), ri_p (show b ≠ a by omega), ri_p (show b ≠ a by omega), ri_p (show b ≠ a by omega), ri_p (show b ≠ a by omega), ri_p (show b ≠ a by omega), E7.i b 7 (nb _ _ (by omega) (by omega)), E7.i b 8 (nb _ _ (by omega) (by omega)), E7.i b 9 (nb _ _ (by omega) (by omega)), E7.i b 10 (nb _ _ (by omega) (by omega)), ← eh8]
    rw [bs_ (bg h8).2.2.2.2.2.1, bs_ (ag h8).2.2.2.2.2.1, bs_ (show cpI S_1 h8 (b + 8) (0 : Int32) (a + 8) (0 : Int32) (6 : Int32) = some h9 from q9), zI b0, zP a0, E9.i b 12 (nb _ _ (by omega) (by omega)), ← eh10, bs_ (bg h10).2.2.2.2.2.2, bs_ (ag h10).2.2.2.2.2.2, bs_ q11, zI b0, zP a0, k2, E10.i b 15 (nb _ _ (by omega) (by omega))]
  · rw [show (stI h11 a 15 (h.2.1 b 15)).2.1 p j = h11.2.1 p j from ?_, k2]
    · exact E10.i p j hp
    · by_cases e : p = a
      · subst e
        have := of_decide_eq_false hp
        exact ri_k (by omega)
      · exact ri_p e
  · have n15 : ∀ p j, p ≠ a → (stI h11 a 15 (h.2.1 b 15)).2.1 p j = h10.2.1 p j := fun p j hp => (ri_p hp).trans (congrFun (congrFun k2 p) j)
    have f15 : ∀ j, j ≠ 15 → (stI h11 a 15 (h.2.1 b 15)).2.1 a j = h10.2.1 a j := fun j hj => (ri_k hj).trans (congrFun (congrFun k2 a) j)
    have n10 : ∀ p j, p ≠ a → h10.2.1 p j = h9.2.1 p j := fun p j hp => by rw [eh10]; exact ri_p hp
    have f10 : ∀ j, j ≠ 12 → h10.2.1 a j = h9.2.1 a j := fun j hj => by rw [eh10]; exact ri_k hj
    have f9 : ∀ j, h9.2.1 a j = h8.2.1 a j := fun j => c9.n (by omega)
    have n8 : ∀ p j, p ≠ a → h8.2.1 p j = h7.2.1 p j := fun p j hp => by rw [eh8]; exact (ri_p hp).trans ((ri_p hp).trans ((ri_p hp).trans (ri_p hp)))
    have f8 : ∀ j, j < 7 → h8.2.1 a j = h7.2.1 a j := fun j hj => by rw [eh8]; exact (ri_k (by omega)).trans ((ri_k (by omega)).trans ((ri_k (by omega)).trans (ri_k (by omega))))
    have f7 : ∀ j, h7.2.1 a j = h5.2.1 a j := fun j => (c7.n (by omega)).trans (c6.n (by omega))
    have n5 : ∀ p j, p ≠ a → h5.2.1 p j = h4.2.1 p j := fun p j hp => by rw [eh5]; exact ri_p hp
    have f5 : ∀ j, j ≠ 4 → h5.2.1 a j = h4.2.1 a j := fun j hj => by rw [eh5]; exact ri_k hj
    have f4 : ∀ j, h4.2.1 a j = h2.2.1 a j := fun j => (c4.n (by omega)).trans (c3.n (by omega))
    have n2 : ∀ p j, p ≠ a → h2.2.1 p j = h1.2.1 p j := fun p j hp => by rw [eh2]; exact ri_p hp
    have low : ∀ p j, p ≠ a → p < a + 4 → (stI h11 a 15 (h.2.1 b 15)).2.1 p j = h1.2.1 p j := fun p j hp hl => by
      rw [n15 p j hp, n10 p j hp, c9.n (by omega), n8 p j hp, c7.n (by omega), c6.n (by omega), n5 p j hp, c4.n (by omega), c3.n (by omega), n2 p j hp]
    refine ⟨(s1 r hS).rows (funext fun j => low _ j (by omega) (by omega)) (funext fun j => low _ j (by omega) (by omega)) (funext fun j => low _ j (by omega) (by omega)), ?_⟩
    obtain ⟨⟨r0, r1, r2, r3, r4, r6, r7, r8⟩, hra, hfa, hcl, hri, hhe⟩ := hR
    have nbi : ∀ {g : AH} (E : Eqv (PRo a) h g) (p j : Nat), b ≤ p → p ≤ b + 9 → g.2.1 p j = h.2.1 p j := fun E p j h1 h2 => E.i p j (nb p j h1 h2)
    refine ⟨⟨?_, ?_, ?_, ?_, ?_, ?_, ?_, ?_⟩, fun j hj => ?_, fun j hj => ?_, fun j hj => ?_, fun j hj => ?_, fun j hj => ?_⟩
    · rw [f15 _ (by decide), f10 _ (by decide), f9, f8 _ (by decide), f7, f5 _ (by decide), f4, eh2, stI_s, r0]
    · rw [f15 _ (by decide), f10 _ (by decide), f9, f8 _ (by decide), f7, eh5, stI_s, r1]
    · rw [f15 _ (by decide), f10 _ (by decide), f9, eh8, stI_s, r2]
    · rw [f15 _ (by decide), eh10, stI_s, r3]
    · rw [stI_s, r4]
    · rw [f15 _ (by decide), f10 _ (by decide), f9, eh8, ri_k (by decide), ri_k (by decide), ri_k (by decide), stI_s, r6]
    · rw [f15 _ (by decide), f10 _ (by decide), f9, eh8, ri_k (by decide), ri_k (by decide), stI_s, r7]
    · rw [f15 _ (by decide), f10 _ (by decide), f9, eh8, ri_k (by decide), stI_s, r8]
    · have := c3.i (j := j) hj
      rw [Nat.zero_add, nbi E2 (b + 4) j (by omega) (by omega)] at this
      rw [n15 _ _ (by omega), n10 _ _ (by omega), c9.n (by omega), n8 _ _ (by omega), c7.n (by omega), c6.n (by omega), n5 _ _ (by omega), c4.n (by omega), this, hra j hj]
    · have := c4.i (j := j) hj
      rw [Nat.zero_add, nbi E3 (b + 5) j (by omega) (by omega)] at this
      rw [n15 _ _ (by omega), n10 _ _ (by omega), c9.n (by omega), n8 _ _ (by omega), c7.n (by omega), c6.n (by omega), n5 _ _ (by omega), this, hfa j hj]
    · have := c6.i (j := j) hj
      rw [Nat.zero_add, nbi E5 (b + 6) j (by omega) (by omega)] at this
      rw [n15 _ _ (by omega), n10 _ _ (by omega), c9.n (by omega), n8 _ _ (by omega), c7.n (by omega), this, hcl j hj]
    · have := c7.i (j := j) hj
      rw [Nat.zero_add, nbi E6 (b + 7) j (by omega) (by omega)] at this
      rw [n15 _ _ (by omega), n10 _ _ (by omega), c9.n (by omega), n8 _ _ (by omega), this, hri j hj]
    · have := c9.i (j := j) hj
      rw [Nat.zero_add, nbi E8 (b + 8) j (by omega) (by omega)] at this
      rw [n15 _ _ (by omega), n10 _ _ (by omega), this, hhe j hj]
