/-! the start: both go together -/
theorem h5_st : (∀ j, j < 7 → H_5.2.1 53 j = H_5.2.1 81 j) ∧ H_5.2.1 0 14 = H_5.2.1 80 1 := by decide +kernel
theorem h5_bd : (H_5.2.1 82 0 = 0 ∧ H_5.2.1 82 1 = 0 ∧ H_5.2.1 82 2 = 0 ∧ H_5.2.1 82 3 = 0 ∧ H_5.2.1 82 4 = -1 ∧ H_5.2.1 82 5 = 0 ∧ H_5.2.1 82 6 = 1 ∧ H_5.2.1 82 7 = 0 ∧ H_5.2.1 82 8 = 1 ∧ H_5.2.1 82 9 = 0) ∧ ∀ j, j < 80 → H_5.2.1 82 (10 + j) = 0 := by decide +kernel
theorem h5_ro : (H_5.2.1 2 1 = 0 ∧ H_5.2.1 2 4 = 0 ∧ H_5.2.1 2 10 = 0 ∧ H_5.2.1 2 12 = 0 ∧ H_5.2.1 2 15 = -1 ∧ H_5.2.1 2 7 = 1 ∧ H_5.2.1 2 8 = 0 ∧ H_5.2.1 2 9 = 1 ∧ H_5.2.1 3 2 = 0 ∧ H_5.2.1 3 3 = 0) ∧ ∀ j, j < 42 → H_5.2.1 4 j = 0 ∧ H_5.2.1 5 j = 0 ∧ H_5.2.1 6 j = 0 ∧ H_5.2.1 7 j = 0 ∧ H_5.2.1 8 j = 0 ∧ H_5.2.1 9 j = 0 ∧ H_5.2.1 10 j = 0 := by decide +kernel
theorem h5_rf : ∀ i, i < 6 → RF S_1 H_5 11 i = none := by decide +kernel
theorem h5_sc : (H_5.2.1 12 3 = 0 ∧ H_5.2.1 16 2 = 0 ∧ H_5.2.1 16 3 = 0 ∧ H_5.2.1 80 8 = 0) ∧ (H_5.2.1 54 16 = 0 ∧ H_5.2.1 67 16 = 0 ∧ H_5.2.1 84 0 = 0 ∧ H_5.2.1 84 1 = 0) ∧ (H_5.2.1 80 56 = -1 ∧ H_5.2.1 28 2 = 0) ∧ (H_5.2.1 0 1 = 0 ∧ H_5.2.1 80 13 = 0) ∧ H_5.2.1 0 15 = -1 ∧ H_5.2.1 80 18 = -1 ∧ H_5.2.1 0 16 = 0 ∧ H_5.2.1 80 11 = 0 ∧ H_5.2.1 0 17 = -1 ∧ H_5.2.1 80 52 = -1 ∧ H_5.2.1 80 20 = 0 := by decide +kernel
theorem h5_tp : ∀ j, j < 400 → H_5.2.1 1 j = 0 ∧ H_5.2.1 89 j = 0 := by decide +kernel
theorem rg_0 {x hi : Int32} (h : x = 0) (hh : (0 : Int32) ≤ hi) : rg x 0 hi := by
  rw [h]
  exact ⟨by decide, hh⟩
theorem rel_0 {h : AH} (h5_st : (∀ j, j < 7 → h.2.1 53 j = h.2.1 81 j) ∧ h.2.1 0 14 = h.2.1 80 1) (h5_bd : (h.2.1 82 0 = 0 ∧ h.2.1 82 1 = 0 ∧ h.2.1 82 2 = 0 ∧ h.2.1 82 3 = 0 ∧ h.2.1 82 4 = -1 ∧ h.2.1 82 5 = 0 ∧ h.2.1 82 6 = 1 ∧ h.2.1 82 7 = 0 ∧ h.2.1 82 8 = 1 ∧ h.2.1 82 9 = 0) ∧ ∀ j, j < 80 → h.2.1 82 (10 + j) = 0) (h5_ro : (h.2.1 2 1 = 0 ∧ h.2.1 2 4 = 0 ∧ h.2.1 2 10 = 0 ∧ h.2.1 2 12 = 0 ∧ h.2.1 2 15 = -1 ∧ h.2.1 2 7 = 1 ∧ h.2.1 2 8 = 0 ∧ h.2.1 2 9 = 1 ∧ h.2.1 3 2 = 0 ∧ h.2.1 3 3 = 0) ∧ ∀ j, j < 42 → h.2.1 4 j = 0 ∧ h.2.1 5 j = 0 ∧ h.2.1 6 j = 0 ∧ h.2.1 7 j = 0 ∧ h.2.1 8 j = 0 ∧ h.2.1 9 j = 0 ∧ h.2.1 10 j = 0) (h5_rf : ∀ i, i < 6 → RF S_1 h 11 i = none) (h5_sc : (h.2.1 12 3 = 0 ∧ h.2.1 16 2 = 0 ∧ h.2.1 16 3 = 0 ∧ h.2.1 80 8 = 0) ∧ (h.2.1 54 16 = 0 ∧ h.2.1 67 16 = 0 ∧ h.2.1 84 0 = 0 ∧ h.2.1 84 1 = 0) ∧ (h.2.1 80 56 = -1 ∧ h.2.1 28 2 = 0) ∧ (h.2.1 0 1 = 0 ∧ h.2.1 80 13 = 0) ∧ h.2.1 0 15 = -1 ∧ h.2.1 80 18 = -1 ∧ h.2.1 0 16 = 0 ∧ h.2.1 80 11 = 0 ∧ h.2.1 0 17 = -1 ∧ h.2.1 80 52 = -1 ∧ h.2.1 80 20 = 0) (h5_tp : ∀ j, j < 400 → h.2.1 1 j = 0 ∧ h.2.1 89 j = 0) (cn : CnS h) : Rel h := by
  obtain ⟨⟨a0, a1, a2, a3, a4, a5, a6, a7, a8, a9⟩, z⟩ := h5_bd
  obtain ⟨⟨b1, b2, b3, b4, b5, b6, b7, b8, b9, b10⟩, y⟩ := h5_ro
  obtain ⟨⟨c1, c2, c3, c4⟩, ⟨d1, d2, d3, d4⟩, ⟨e1, e2⟩, ⟨f1, f2⟩, g1, g2, g3, g4, g5, g6, g7⟩ := h5_sc
  have zz : ∀ j, 10 ≤ j → j < 90 → h.2.1 82 j = 0 := fun j h1 h2 => by
    obtain ⟨i, rfl⟩ : ∃ i, j = 10 + i := ⟨j - 10, by omega⟩
    exact z i (by omega)
  refine ⟨h5_st, 0, 0, 0, 0, ⟨⟨a0, by omega⟩, ⟨a1, by omega⟩, ⟨a2, by omega⟩, ⟨a3, by omega⟩, Or.inl a4, ⟨by rw [a6]; exact ⟨by decide, by decide⟩, by rw [a7]; exact ⟨by decide, by decide⟩, by rw [a8]; exact ⟨by decide, by decide⟩⟩, fun j hj => rg_0 (zz _ (by omega) (by omega)) (by decide), fun j hj => rg_0 (zz _ (by omega) (by omega)) (by decide), fun j hj => by omega, fun j hj => rg_0 (zz _ (by omega) (by omega)) (by decide), fun j hj => rg_0 (zz _ (by omega) (by omega)) (by decide)⟩, ⟨rg_0 a5 (by decide), rg_0 a9 (by decide), fun j hj => by rw [zz _ (by omega) (by omega)]; exact ⟨by decide, by decide⟩, fun j hj => rg_0 (zz _ (by omega) (by omega)) (by decide)⟩, ⟨⟨fun j hj => (y j (by omega)).1.trans (zz _ (by omega) (by omega)).symm, fun j hj => (y j (by omega)).2.1.trans (zz _ (by omega) (by omega)).symm, b9.trans a9.symm, b10.trans a5.symm⟩, ⟨b1.trans a0.symm, b2.trans a1.symm, b3.trans a2.symm, b4.trans a3.symm, b5.trans a4.symm, b6.trans a6.symm, b7.trans a7.symm, b8.trans a8.symm⟩, fun j hj => (y j (by omega)).2.2.1.trans (zz _ (by omega) (by omega)).symm, fun j hj => (y j (by omega)).2.2.2.1.trans (zz _ (by omega) (by omega)).symm, fun j hj => (y j (by omega)).2.2.2.2.1.trans (zz _ (by omega) (by omega)).symm, fun j hj => (y j (by omega)).2.2.2.2.2.1.trans (zz _ (by omega) (by omega)).symm, fun j hj => (y j (by omega)).2.2.2.2.2.2.trans (zz _ (by omega) (by omega)).symm⟩, ⟨⟨fun i hi => by omega, fun i hi x hx => ?_⟩, c1⟩, ⟨0, 0, by omega, by omega, c3, c2, c4, fun i hi => by omega⟩, ⟨⟨d1.trans d3.symm, Or.inl d3⟩, d2.trans d4.symm, Or.inl d4⟩, Or.inl ⟨e1, e2⟩, ⟨0, by omega, f1, f2, fun j hj => ⟨(h5_tp j hj).1.trans (h5_tp j hj).2.symm, rg_0 (h5_tp j hj).2 (by decide)⟩⟩, ⟨g1.trans g2.symm, g3.trans g4.symm, g5.trans g6.symm, g7⟩, cn⟩
  rw [h5_rf i hi] at hx
  cases hx
theorem rel_5 : Rel H_5 := rel_0 h5_st h5_bd h5_ro h5_rf h5_sc h5_tp fun _ _ => rfl
/-! the law: turn by turn -/
theorem sc_at {L k j : Nat} {xs : Nat → Int32} (hL : L ≤ 3072) (hk : 6 * k + 6 ≤ L) (hj : j < 6) : scA L xs (nI (6 * k) + nI j) = some (xs (6 * k + j)) := by
  unfold scA
  rw [nI_add, tn_n (by omega), if_neg]
  rintro (e | e)
  · rw [z_lt (by omega)] at e; exact e
  · omega
theorem sc_at0 {L k : Nat} {xs : Nat → Int32} (hL : L ≤ 3072) (hk : 6 * k + 6 ≤ L) : scA L xs (nI (6 * k)) = some (xs (6 * k)) := by
  unfold scA
  rw [tn_n (by omega), if_neg]
  rintro (e | e)
  · rw [z_lt (by omega)] at e; exact e
  · omega
theorem L_no {L k : Nat} (hL : L ≤ 3072) (hk : 6 * k + 6 ≤ L) : ¬ nI L - (6 : Int32) < nI (6 * k) := by
  obtain ⟨i, rfl⟩ : ∃ i, L = i + 6 := ⟨L - 6, by omega⟩
  rw [show nI (i + 6) - (6 : Int32) = nI i from nI_sub' i 6, nn_lt (by omega) (by omega)]
  omega
theorem L_yes {L k : Nat} (hL : L ≤ 3072) (h0 : 6 * k ≤ L) (hk : ¬ 6 * k + 6 ≤ L) : nI L - (6 : Int32) < nI (6 * k) := by
  by_cases c : 6 ≤ L
  · obtain ⟨i, rfl⟩ : ∃ i, L = i + 6 := ⟨L - 6, by omega⟩
    rw [show nI (i + 6) - (6 : Int32) = nI i from nI_sub' i 6, nn_lt (by omega) (by omega)]
    omega
  · have : k = 0 := by omega
    subst this
    have d : ∀ L, L < 6 → nI L - (6 : Int32) < nI (6 * 0) := by decide
    exact d L (by omega)
theorem lg_same (x : Int64) : lg_cmp x x = 0 := by
  rw [cmp_eq0]
set_option maxRecDepth 20000 in
theorem law_turn {L k : Nat} {xs : Nat → Int32} {h : AH} (rc : Nat → Nat → Int32 → AH → Option ((Int32 ⊕ Unit) × AH)) (hL : L ≤ 3072) (hk : 6 * k + 6 ≤ L) (r : Rel h) : ∃ h', f_L_law_l18b S_1 L xs rc 0 80 (nI (6 * k)) h = rc 0 80 (nI (6 * (k + 1))) h' ∧ Rel h' := by
  have a1 : scA L xs (nI (6 * k) + (1 : Int32)) = some (xs (6 * k + 1)) := sc_at (j := 1) hL hk (by decide)
  have a2 : scA L xs (nI (6 * k) + (2 : Int32)) = some (xs (6 * k + 2)) := sc_at (j := 2) hL hk (by decide)
  have a3 : scA L xs (nI (6 * k) + (3 : Int32)) = some (xs (6 * k + 3)) := sc_at (j := 3) hL hk (by decide)
  have a4 : scA L xs (nI (6 * k) + (4 : Int32)) = some (xs (6 * k + 4)) := sc_at (j := 4) hL hk (by decide)
  have a5 : scA L xs (nI (6 * k) + (5 : Int32)) = some (xs (6 * k + 5)) := sc_at (j := 5) hL hk (by decide)
  have e6 : nI (6 * k) + (6 : Int32) = nI (6 * (k + 1)) := nI_add _ 6
  unfold f_L_law_l18b
  rw [if_neg (L_no hL hk), bs_ (sc_at0 hL hk)]
  generalize xs (6 * k) &&& (63 : Int32) = o
  by_cases c0 : o = 0
  · rw [if_pos c0]
    obtain ⟨v, h1, h2, r1, r2, r3⟩ := bo_bird r (xs (6 * k + 1)) (xs (6 * k + 2))
    refine ⟨h2, ?_, r3⟩
    rw [bs_ a1, bs_ a2, bs_ (ck_0 h), bs_ r1]
    dsimp only
    rw [bs_ a1, bs_ a2, bs_ (ck_80 h1), bs_ r2]
    dsimp only
    rw [if_pos rfl, lt_e, e6]
  rw [if_neg c0]
  by_cases c1 : o = 1
  · rw [if_pos c1]
    obtain ⟨v, h1, h2, r1, r2, r3⟩ := bo_favour r (xs (6 * k + 1)) (xs (6 * k + 2)) (xs (6 * k + 3))
    refine ⟨h2, ?_, r3⟩
    rw [bs_ a1, bs_ a2, bs_ a3, bs_ (ck_0 h), bs_ r1]
    dsimp only
    rw [bs_ a1, bs_ a2, bs_ a3, bs_ (ck_80 h1), bs_ r2]
    dsimp only
    rw [if_pos rfl, lt_e, e6]
  rw [if_neg c1]
  by_cases c2 : o = 2
  · rw [if_pos c2]
    obtain ⟨v, h1, h2, r1, r2, r3⟩ := bo_of r (xs (6 * k + 1)) (xs (6 * k + 2))
    refine ⟨h2, ?_, r3⟩
    rw [bs_ a1, bs_ a2, bs_ (ck_0 h), bs_ r1]
    dsimp only
    rw [bs_ a1, bs_ a2, bs_ (ck_80 h1), bs_ r2]
    dsimp only
    rw [if_pos rfl, lt_e, e6]
  rw [if_neg c2]
  by_cases c3 : o = 3
  · rw [if_pos c3]
    obtain ⟨v, h1, h2, r1, r2, r3⟩ := bo_matter r (xs (6 * k + 1)) (xs (6 * k + 2))
    refine ⟨h2, ?_, r3⟩
    rw [bs_ a1, bs_ a2, bs_ (ck_0 h), bs_ r1]
    dsimp only
    rw [bs_ a1, bs_ a2, bs_ (ck_80 h1), bs_ r2]
    dsimp only
    rw [if_pos rfl, lt_e, e6]
  rw [if_neg c3]
  by_cases c4 : o = 4
  · rw [if_pos c4]
    obtain ⟨v, h1, h2, r1, r2, r3⟩ := bo_at r (xs (6 * k + 1)) (xs (6 * k + 2))
    refine ⟨h2, ?_, r3⟩
    rw [bs_ a1, bs_ a2, bs_ (ck_0 h), bs_ r1]
    dsimp only
    rw [bs_ a1, bs_ a2, bs_ (ck_80 h1), bs_ r2]
    dsimp only
    rw [if_pos rfl, lt_e, e6]
  rw [if_neg c4]
  by_cases c5 : o = 5
  · rw [if_pos c5]
    obtain ⟨v, h1, h2, r1, r2, r3⟩ := bo_terms r (xs (6 * k + 1)) (xs (6 * k + 2))
    refine ⟨h2, ?_, r3⟩
    rw [bs_ a1, bs_ a2, bs_ (ck_0 h), bs_ r1]
    dsimp only
    rw [bs_ a1, bs_ a2, bs_ (ck_80 h1), bs_ r2]
    dsimp only
    rw [if_pos rfl, lt_e, e6]
  rw [if_neg c5]
  by_cases c6 : o = 6
  · rw [if_pos c6]
    obtain ⟨v, h1, h2, r1, r2, r3⟩ := bo_feed r (xs (6 * k + 1)) (xs (6 * k + 2)) (xs (6 * k + 3)) (xs (6 * k + 4)) (xs (6 * k + 5))
    refine ⟨h2, ?_, r3⟩
    rw [bs_ a1, bs_ a2, bs_ a3, bs_ a4, bs_ a5, bs_ (ck_0 h), bs_ r1]
    dsimp only
    rw [bs_ a1, bs_ a2, bs_ a3, bs_ a4, bs_ a5, bs_ (ck_80 h1), bs_ r2]
    dsimp only
    rw [if_pos rfl, lt_e, e6]
  rw [if_neg c6]
  by_cases c7 : o = 7
  · rw [if_pos c7]
    obtain ⟨v, h1, h2, r1, r2, r3⟩ := bo_end r (xs (6 * k + 1))
    refine ⟨h2, ?_, r3⟩
    rw [bs_ a1, bs_ (ck_0 h), bs_ r1]
    dsimp only
    rw [bs_ a1, bs_ (ck_80 h1), bs_ r2]
    dsimp only
    rw [if_pos rfl, lt_e, e6]
  rw [if_neg c7]
  by_cases c8 : o = 8
  · rw [if_pos c8]
    obtain ⟨v, h1, h2, r1, r2, r3⟩ := bo_row r 
    refine ⟨h2, ?_, r3⟩
    rw [bs_ (ck_0 h), bs_ r1]
    dsimp only
    rw [bs_ (ck_80 h1), bs_ r2]
    dsimp only
    rw [if_pos rfl, lt_e, e6]
  rw [if_neg c8]
  by_cases c9 : o = 9
  · rw [if_pos c9]
    obtain ⟨v, h1, h2, r1, r2, r3⟩ := bo_cats r 
    refine ⟨h2, ?_, r3⟩
    rw [bs_ (ck_0 h), bs_ r1]
    dsimp only
    rw [bs_ (ck_80 h1), bs_ r2]
    dsimp only
    rw [if_pos rfl, lt_e, e6]
  rw [if_neg c9]
  by_cases c10 : o = 10
  · rw [if_pos c10]
    obtain ⟨v, h1, h2, r1, r2, r3⟩ := bo_law r 
    refine ⟨h2, ?_, r3⟩
    rw [bs_ (ck_0 h), bs_ r1]
    dsimp only
    rw [bs_ (ck_80 h1), bs_ r2]
    dsimp only
    rw [if_pos rfl, lt_e, e6]
  rw [if_neg c10]
  by_cases c11 : o = 11
  · rw [if_pos c11]
    obtain ⟨v, h1, h2, r1, r2, r3⟩ := bo_orders r 
    refine ⟨h2, ?_, r3⟩
    rw [bs_ (ck_0 h), bs_ r1]
    dsimp only
    rw [bs_ (ck_80 h1), bs_ r2]
    dsimp only
    rw [if_pos rfl, lt_e, e6]
  rw [if_neg c11]
  by_cases c12 : o = 12
  · rw [if_pos c12]
    obtain ⟨v, h1, h2, r1, r2, r3⟩ := bo_fault r 
    refine ⟨h2, ?_, r3⟩
    rw [bs_ (ck_0 h), bs_ r1]
    dsimp only
    rw [bs_ (ck_80 h1), bs_ r2]
    dsimp only
    rw [if_pos rfl, lt_e, e6]
  rw [if_neg c12]
  by_cases c13 : o = 13
  · rw [if_pos c13]
    obtain ⟨v, h1, h2, r1, r2, r3⟩ := bo_stopped r 
    refine ⟨h2, ?_, r3⟩
    rw [bs_ (ck_0 h), bs_ r1]
    dsimp only
    rw [bs_ (ck_80 h1), bs_ r2]
    dsimp only
    rw [if_pos rfl, lt_e, e6]
  rw [if_neg c13]
  by_cases c14 : o = 14
  · rw [if_pos c14]
    obtain ⟨v, h1, h2, r1, r2, r3⟩ := bo_force r (xs (6 * k + 1))
    refine ⟨h2, ?_, r3⟩
    rw [bs_ a1, bs_ (ck_0 h), bs_ r1]
    dsimp only
    rw [bs_ a1, bs_ (ck_80 h1), bs_ r2]
    dsimp only
    rw [if_pos rfl, lt_e, e6]
  rw [if_neg c14]
  by_cases c15 : o = 15
  · rw [if_pos c15]
    obtain ⟨v, h1, h2, r1, r2, r3⟩ := bo_move r (xs (6 * k + 1)) (xs (6 * k + 2))
    refine ⟨h2, ?_, r3⟩
    rw [bs_ a1, bs_ a2, bs_ (ck_0 h), bs_ r1]
    dsimp only
    rw [bs_ a1, bs_ a2, bs_ (ck_80 h1), bs_ r2]
    dsimp only
    rw [if_pos rfl, lt_e, e6]
  rw [if_neg c15]
  by_cases c16 : o = 16
  · rw [if_pos c16]
    obtain ⟨v, h1, h2, r1, r2, r3⟩ := bo_divide r (xs (6 * k + 1))
    refine ⟨h2, ?_, r3⟩
    rw [bs_ a1, bs_ (ck_0 h), bs_ r1]
    dsimp only
    rw [bs_ a1, bs_ (ck_80 h1), bs_ r2]
    dsimp only
    rw [if_pos rfl, lt_e, e6]
  rw [if_neg c16]
  by_cases c17 : o = 17
  · rw [if_pos c17]
    obtain ⟨v, h1, h2, r1, r2, r3⟩ := bo_fly r (xs (6 * k + 1)) (xs (6 * k + 2))
    refine ⟨h2, ?_, r3⟩
    rw [bs_ a1, bs_ a2, bs_ (ck_0 h), bs_ r1]
    dsimp only
    rw [bs_ a1, bs_ a2, bs_ (ck_80 h1), bs_ r2]
    dsimp only
    rw [if_pos rfl, lt_e, e6]
  rw [if_neg c17]
  by_cases c18 : o = 18
  · rw [if_pos c18]
    obtain ⟨v, h1, h2, r1, r2, r3⟩ := bo_pass r 
    refine ⟨h2, ?_, r3⟩
    rw [bs_ (ck_0 h), bs_ r1]
    dsimp only
    rw [bs_ (ck_80 h1), bs_ r2]
    dsimp only
    rw [if_pos rfl, lt_e, e6]
  rw [if_neg c18]
  by_cases c19 : o = 19
  · rw [if_pos c19]
    obtain ⟨v, h1, h2, r1, r2, r3⟩ := bo_undo r 
    refine ⟨h2, ?_, r3⟩
    rw [bs_ (ck_0 h), bs_ r1]
    dsimp only
    rw [bs_ (ck_80 h1), bs_ r2]
    dsimp only
    rw [if_pos rfl, lt_e, e6]
  rw [if_neg c19]
  by_cases c20 : o = 20
  · rw [if_pos c20]
    obtain ⟨v, h1, h2, r1, r2, r3⟩ := bo_second r (xs (6 * k + 1)) (xs (6 * k + 2))
    refine ⟨h2, ?_, r3⟩
    rw [bs_ a1, bs_ a2, bs_ (ck_0 h), bs_ r1]
    dsimp only
    rw [bs_ a1, bs_ a2, bs_ (ck_80 h1), bs_ r2]
    dsimp only
    rw [if_pos rfl, lt_e, e6]
  rw [if_neg c20]
  by_cases c21 : o = 21
  · rw [if_pos c21]
    obtain ⟨v, h1, h2, r1, r2, r3⟩ := bo_richest r (xs (6 * k + 1))
    refine ⟨h2, ?_, r3⟩
    rw [bs_ a1, bs_ (ck_0 h), bs_ r1]
    dsimp only
    rw [bs_ a1, bs_ (ck_80 h1), bs_ r2]
    dsimp only
    rw [if_pos rfl, lt_e, e6]
  rw [if_neg c21]
  by_cases c22 : o = 22
  · rw [if_pos c22]
    obtain ⟨v, h1, h2, r1, r2, r3⟩ := bo_byClock r (xs (6 * k + 1))
    refine ⟨h2, ?_, r3⟩
    rw [bs_ a1, bs_ (ck_0 h), bs_ r1]
    dsimp only
    rw [bs_ a1, bs_ (ck_80 h1), bs_ r2]
    dsimp only
    rw [if_pos rfl, lt_e, e6]
  rw [if_neg c22]
  by_cases c23 : o = 23
  · rw [if_pos c23]
    obtain ⟨v, h1, h2, r1, r2, r3⟩ := bo_spoilt r (xs (6 * k + 1)) (xs (6 * k + 2))
    refine ⟨h2, ?_, r3⟩
    rw [bs_ a1, bs_ a2, bs_ (ck_0 h), bs_ r1]
    dsimp only
    rw [bs_ a1, bs_ a2, bs_ (ck_80 h1), bs_ r2]
    dsimp only
    rw [if_pos rfl, lt_e, e6]
  rw [if_neg c23]
  by_cases c24 : o = 24
  · rw [if_pos c24]
    obtain ⟨v, h1, h2, r1, r2, r3⟩ := bo_come r (xs (6 * k + 1)) (xs (6 * k + 2))
    refine ⟨h2, ?_, r3⟩
    rw [bs_ a1, bs_ a2, bs_ (ck_0 h), bs_ r1]
    dsimp only
    rw [bs_ a1, bs_ a2, bs_ (ck_80 h1), bs_ r2]
    dsimp only
    rw [if_pos rfl, lt_e, e6]
  rw [if_neg c24]
  by_cases c25 : o = 25
  · rw [if_pos c25]
    obtain ⟨v, h1, h2, r1, r2, r3⟩ := bo_chain r (xs (6 * k + 1)) (xs (6 * k + 2)) (xs (6 * k + 3))
    refine ⟨h2, ?_, r3⟩
    rw [bs_ a1, bs_ a2, bs_ a3, bs_ (ck_0 h), bs_ r1]
    dsimp only
    rw [bs_ a1, bs_ a2, bs_ a3, bs_ (ck_80 h1), bs_ r2]
    dsimp only
    rw [if_pos rfl, lt_e, e6]
  rw [if_neg c25]
  by_cases c26 : o = 26
  · rw [if_pos c26]
    obtain ⟨v, h1, h2, r1, r2, r3⟩ := bo_ears r (xs (6 * k + 1))
    refine ⟨h2, ?_, r3⟩
    rw [bs_ a1, bs_ (ck_0 h), bs_ r1]
    dsimp only
    rw [bs_ a1, bs_ (ck_80 h1), bs_ r2]
    dsimp only
    rw [if_pos rfl, lt_e, e6]
  rw [if_neg c26]
  by_cases c27 : o = 27
  · rw [if_pos c27]
    obtain ⟨v, h1, h2, r1, r2, r3⟩ := bo_loudest r (xs (6 * k + 1))
    refine ⟨h2, ?_, r3⟩
    rw [bs_ a1, bs_ (ck_0 h), bs_ r1]
    dsimp only
    rw [bs_ a1, bs_ (ck_80 h1), bs_ r2]
    dsimp only
    rw [if_pos rfl, lt_e, e6]
  rw [if_neg c27]
  by_cases c28 : o = 28
  · rw [if_pos c28]
    obtain ⟨v, h1, h2, r1, r2, r3⟩ := bo_nearest r (xs (6 * k + 1)) (xs (6 * k + 2))
    refine ⟨h2, ?_, r3⟩
    rw [bs_ a1, bs_ a2, bs_ (ck_0 h), bs_ r1]
    dsimp only
    rw [bs_ a1, bs_ a2, bs_ (ck_80 h1), bs_ r2]
    dsimp only
    rw [if_pos rfl, lt_e, e6]
  rw [if_neg c28]
  by_cases c29 : o = 29
  · rw [if_pos c29]
    obtain ⟨v, h1, h2, r1, r2, r3⟩ := bo_heard r (xs (6 * k + 1))
    refine ⟨h2, ?_, r3⟩
    rw [bs_ a1, bs_ (ck_0 h), bs_ r1]
    dsimp only
    rw [bs_ a1, bs_ (ck_80 h1), bs_ r2]
    dsimp only
    rw [if_pos rfl, lt_e, e6]
  rw [if_neg c29]
  by_cases c30 : o = 30
  · rw [if_pos c30]
    obtain ⟨v, h1, h2, r1, r2, r3⟩ := bo_forget r 
    refine ⟨h2, ?_, r3⟩
    rw [bs_ (ck_0 h), bs_ r1]
    dsimp only
    rw [bs_ (ck_80 h1), bs_ r2]
    dsimp only
    rw [if_pos rfl, lt_e, e6]
  rw [if_neg c30]
  by_cases c31 : o = 31
  · rw [if_pos c31]
    obtain ⟨v, h1, h2, r1, r2, r3⟩ := bo_canBe r 
    refine ⟨h2, ?_, r3⟩
    rw [bs_ (ck_0 h), bs_ r1]
    dsimp only
    rw [bs_ (ck_80 h1), bs_ r2]
    dsimp only
    rw [if_pos rfl, lt_e, e6]
  rw [if_neg c31]
  by_cases c32 : o = 32
  · rw [if_pos c32]
    obtain ⟨v, h1, h2, r1, r2, r3⟩ := bo_listen r (xs (6 * k + 1))
    refine ⟨h2, ?_, r3⟩
    rw [bs_ a1, bs_ (ck_0 h), bs_ r1]
    dsimp only
    rw [bs_ a1, bs_ (ck_80 h1), bs_ r2]
    dsimp only
    rw [if_pos rfl, lt_e, e6]
  rw [if_neg c32]
  by_cases c33 : o = 33
  · rw [if_pos c33]
    obtain ⟨v, h1, h2, r1, r2, r3⟩ := bo_few r (xs (6 * k + 1)) (xs (6 * k + 2))
    refine ⟨h2, ?_, r3⟩
    rw [bs_ a1, bs_ a2, bs_ (ck_0 h), bs_ r1]
    dsimp only
    rw [bs_ a1, bs_ a2, bs_ (ck_80 h1), bs_ r2]
    dsimp only
    rw [if_pos (lg_same v), lt_e, e6]
  rw [if_neg c33]
  by_cases c34 : o = 34
  · rw [if_pos c34]
    obtain ⟨v, h1, h2, r1, r2, r3⟩ := bo_compare r (xs (6 * k + 1)) (xs (6 * k + 2))
    refine ⟨h2, ?_, r3⟩
    rw [bs_ a1, bs_ a2, bs_ (ck_0 h), bs_ r1]
    dsimp only
    rw [bs_ a1, bs_ a2, bs_ (ck_80 h1), bs_ r2]
    dsimp only
    rw [if_pos rfl, lt_e, e6]
  rw [if_neg c34]
  by_cases c35 : o = 35
  · rw [if_pos c35]
    obtain ⟨v, h1, h2, r1, r2, r3⟩ := bo_mays r (xs (6 * k + 1)) (xs (6 * k + 2))
    refine ⟨h2, ?_, r3⟩
    rw [bs_ a1, bs_ a2, bs_ (ck_0 h), bs_ r1]
    dsimp only
    rw [bs_ a1, bs_ a2, bs_ (ck_80 h1), bs_ r2]
    dsimp only
    rw [if_pos rfl, lt_e, e6]
  rw [if_neg c35]
  by_cases c36 : o = 36
  · rw [if_pos c36]
    obtain ⟨v, h1, h2, r1, r2, r3⟩ := bo_drawn r (xs (6 * k + 1)) (xs (6 * k + 2))
    refine ⟨h2, ?_, r3⟩
    rw [bs_ a1, bs_ a2, bs_ (ck_0 h), bs_ r1]
    dsimp only
    rw [bs_ a1, bs_ a2, bs_ (ck_80 h1), bs_ r2]
    dsimp only
    rw [if_pos rfl, lt_e, e6]
  rw [if_neg c36]
  by_cases c37 : o = 37
  · rw [if_pos c37]
    obtain ⟨v, h1, h2, r1, r2, r3⟩ := bo_image r (xs (6 * k + 1))
    refine ⟨h2, ?_, r3⟩
    rw [bs_ a1, bs_ (ck_0 h), bs_ r1]
    dsimp only
    rw [bs_ a1, bs_ (ck_80 h1), bs_ r2]
    dsimp only
    rw [if_pos rfl, lt_e, e6]
  rw [if_neg c37]
  by_cases c38 : o = 38
  · rw [if_pos c38]
    obtain ⟨v, h1, h2, r1, r2, r3⟩ := bo_back r (xs (6 * k + 1))
    refine ⟨h2, ?_, r3⟩
    rw [bs_ a1, bs_ (ck_0 h), bs_ r1]
    dsimp only
    rw [bs_ a1, bs_ (ck_80 h1), bs_ r2]
    dsimp only
    rw [if_pos rfl, lt_e, e6]
  rw [if_neg c38]
  by_cases c39 : o = 39
  · rw [if_pos c39]
    obtain ⟨v, h1, h2, r1, r2, r3⟩ := bo_count r (xs (6 * k + 1))
    refine ⟨h2, ?_, r3⟩
    rw [bs_ a1, bs_ (ck_0 h), bs_ r1]
    dsimp only
    rw [bs_ a1, bs_ (ck_80 h1), bs_ r2]
    dsimp only
    rw [if_pos rfl, lt_e, e6]
  rw [if_neg c39]
  by_cases c40 : o = 40
  · rw [if_pos c40]
    obtain ⟨v, h1, h2, r1, r2, r3⟩ := bo_status r 
    refine ⟨h2, ?_, r3⟩
    rw [bs_ (ck_0 h), bs_ r1]
    dsimp only
    rw [bs_ (ck_80 h1), bs_ r2]
    dsimp only
    rw [if_pos rfl, lt_e, e6]
  rw [if_neg c40]
  exact ⟨h, by rw [lt_e, e6], r⟩
theorem law_loop {L : Nat} {xs : Nat → Int32} (hL : L ≤ 3072) : ∀ (n k : Nat) (h : AH), L < 6 * (k + n) → 6 * k ≤ L → Rel h → ok (f_L_loop S_1 L xs n 0 80 (nI (6 * k)) h) (fun z _ => z = .inr ())
  | 0, k, h, h1, h2, r => by omega
  | n + 1, k, h, h1, h2, r => by
    rw [f_L_loop]
    by_cases c : 6 * k + 6 ≤ L
    · obtain ⟨h', e, r'⟩ := law_turn (f_L_loop S_1 L xs n) (xs := xs) hL c r
      rw [e]
      exact law_loop hL n (k + 1) h' (by omega) (by omega) r'
    · unfold f_L_law_l18b
      rw [if_pos (L_yes hL h2 c)]
      exact ⟨.inr (), h, rfl, rfl⟩
theorem law_fun (L : Nat) (hL : L ≤ 3072) (xs : Nat → Int32) : ok (f_L_loop S_1 L xs 514 0 80 0 H_5) (fun z _ => z = .inr ()) := law_loop hL 514 0 H_5 (by omega) (by omega) rel_5
